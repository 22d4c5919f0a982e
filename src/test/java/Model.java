import java.util.ArrayDeque;
import java.util.ArrayList;
import java.util.List;

/**
 * The document once more, as plainly as it goes and with no care for speed: the receiver is run
 * anew over all bits for each question. Runs of calls are compared with it.
 */
final class Model {
    static final int NONE = -1;

    /** A token of a text: kind w, n, ; or ? (a byte that begins none) or e (the end). */
    private record Token(char kind, int place, String sign) {
    }

    static final class Plan {
        int length = 8;
        String roles = "001011";
        int poly = 0;
        int width = 7;
        int stolen = 0;
        int least = 4;
        int wrong = 2;
        int of = 4;
        int drift = 0;

        int superframe() {
            return length * roles.length();
        }

        int channels() {
            return (length - 1) / width;
        }

        int c() {
            int n = 0;
            for (char r : roles.toCharArray()) {
                n += r == 'c' ? 1 : 0;
            }
            return n;
        }

        char roleOfPosition(int position) {
            int p = position % superframe();
            return p % length == 0 ? roles.charAt(p / length) : '.';
        }

        boolean fixed(int position) {
            char r = roleOfPosition(position);
            return r == '0' || r == '1';
        }

        boolean other(int position, int bit) {
            return fixed(position) && roleOfPosition(position) - '0' != bit;
        }

        /** The checks of the superframe that stands in bits from start on, the top one first. */
        List<Integer> checks(List<Integer> bits, int start) {
            int k = c();
            List<Integer> register = new ArrayList<>();
            for (int i = 0; i < k; i++) {
                register.add(0);
            }
            for (int i = 0; k > 0 && i < superframe(); i++) {
                int bit = roleOfPosition(i) == 'c' ? 1 : bits.get(start + i);
                boolean unlike = register.get(0) != bit;
                register.remove(0);
                register.add(0);
                for (int j = 0; unlike && j < k; j++) {
                    int turned = poly >> (k - 1 - j) & 1;
                    register.set(j, register.get(j) ^ turned);
                }
            }
            return register;
        }
    }

    private static final class Kept {
        Plan plan;
        String text;
        int fault;
        int place;
        Road road;
    }

    /** What acts change. */
    private static final class Road {
        List<Integer> line = new ArrayList<>();
        int heard = 0;
        List<Integer> toSay = new ArrayList<>();
        int said = 0;
        List<Integer> lastChecks = null;

        Road copy() {
            Road r = new Road();
            r.line = new ArrayList<>(line);
            r.heard = heard;
            r.toSay = new ArrayList<>(toSay);
            r.said = said;
            r.lastChecks = lastChecks;
            return r;
        }
    }

    private record Frame(int number, int place, List<Integer> bits) {
    }

    static final class Rx {
        final Plan plan;
        final List<Integer> bits = new ArrayList<>();
        int state = 0;
        int since = 0;
        List<Integer> left = new ArrayList<>();
        int starts = 0;
        int mimics = 0;
        int locks = 0;
        int lost = 0;
        int position = NONE;
        List<Integer> wrongs = new ArrayList<>();
        int bad = 0;
        int came = 0;
        int dropped = 0;
        int read = 0;
        int again = 0;
        int clock = 0;
        ArrayDeque<Frame> store = new ArrayDeque<>();
        Frame last = null;
        List<List<Integer>> signals = new ArrayList<>();
        List<Integer> value = null;
        List<Integer> taken = new ArrayList<>();
        int spoilt = 0;

        Rx(Plan plan) {
            this.plan = plan;
            for (int c = 0; c < plan.channels(); c++) {
                signals.add(new ArrayList<>());
            }
            hunt();
        }

        void hunt() {
            state = 0;
            since = 0;
            starts++;
            position = NONE;
            value = null;
            left = new ArrayList<>();
            for (int p = 0; p < plan.superframe(); p++) {
                left.add(p);
            }
        }

        void lock() {
            state = 2;
            locks++;
            since = 0;
            wrongs.clear();
            value = null;
        }

        void take(int bit) {
            bits.add(bit);
            since++;
            if (state == 0) {
                hunting(bit);
            } else {
                following(bit);
            }
            clock += 1000 + plan.drift;
            if (clock >= 1000 * plan.length) {
                clock -= 1000 * plan.length;
                read();
            }
        }

        private void hunting(int bit) {
            left.removeIf(p -> plan.other(p + since - 1, bit));
            if (left.isEmpty()) {
                hunt();
            } else if (left.size() == 1) {
                int p = left.get(0);
                int fixed = 0;
                for (int i = 0; i < since; i++) {
                    fixed += plan.fixed(p + i) ? 1 : 0;
                }
                if (fixed >= plan.least) {
                    position = (p + since) % plan.superframe();
                    if (plan.c() > 0) {
                        state = 1;
                        since = 0;
                    } else {
                        lock();
                    }
                }
            }
        }

        private void following(int bit) {
            int at = position;
            if (plan.fixed(at)) {
                boolean wrong = plan.other(at, bit);
                if (state == 1 && wrong) {
                    hunt();
                    return;
                }
                wrongs.add(wrong ? 1 : 0);
                if (state == 2 && wrongsOfLatest() >= plan.wrong) {
                    lost++;
                    hunt();
                    return;
                }
            }
            if (state == 2 && plan.roleOfPosition(at) == 'd') {
                link(bit);
            }
            position = (at + 1) % plan.superframe();
            if (state == 2 && position % plan.length == 0 && since >= plan.length) {
                come(at / plan.length);
            }
            if (position == 0 && plan.c() > 0 && since >= 2 * plan.superframe()) {
                judge();
            }
        }

        int wrongsOfLatest() {
            int n = 0;
            for (int i = Math.max(0, wrongs.size() - plan.of); i < wrongs.size(); i++) {
                n += wrongs.get(i);
            }
            return n;
        }

        private void judge() {
            int s = plan.superframe();
            int start = bits.size() - s;
            List<Integer> told = new ArrayList<>();
            for (int i = 0; i < s; i++) {
                if (plan.roleOfPosition(i) == 'c') {
                    told.add(bits.get(start + i));
                }
            }
            boolean right = told.equals(plan.checks(bits, start - s));
            if (state == 2) {
                bad += right ? 0 : 1;
            } else if (right) {
                lock();
            } else {
                mimics++;
                hunt();
            }
        }

        private void link(int bit) {
            if (value == null) {
                value = bit == 0 ? new ArrayList<>() : null;
            } else if (value.size() < 8) {
                value.add(bit);
            } else {
                if (bit == 1) {
                    int v = 0;
                    for (int b : value) {
                        v = 2 * v + b;
                    }
                    taken.add(0, v);
                } else {
                    spoilt++;
                }
                value = null;
            }
        }

        private void come(int place) {
            if (store.size() == 2) {
                store.removeFirst();
                dropped++;
            }
            int n = bits.size();
            store.addLast(new Frame(came, place, new ArrayList<>(bits.subList(n - plan.length, n))));
            came++;
        }

        private void read() {
            if (store.isEmpty()) {
                again += last == null ? 0 : 1;
                return;
            }
            last = store.removeFirst();
            read++;
            if (plan.stolen > 0 && (last.place() + 1) % plan.stolen == 0) {
                for (int c = 0; c < plan.channels(); c++) {
                    signals.get(c).add(last.bits().get((c + 1) * plan.width));
                }
            }
        }

        int tell(int what) {
            return switch (what) {
                case 0 -> state;
                case 1 -> state == 0 ? left.size() : 1;
                case 2 -> starts;
                case 3 -> mimics;
                case 4 -> locks;
                case 5 -> lost;
                case 6 -> position;
                case 7 -> since;
                case 8 -> state == 2 ? wrongsOfLatest() : 0;
                case 9 -> bad;
                case 10 -> came;
                case 11 -> dropped;
                case 12 -> read;
                case 13 -> again;
                case 14 -> store.size();
                case 15 -> clock;
                case 16 -> taken.size();
                case 17 -> spoilt;
                default -> NONE;
            };
        }
    }

    private Plan plan = new Plan();
    private String text = "";
    private int fault = 0;
    private int place = NONE;
    private Road road = new Road();
    private List<Road> past = new ArrayList<>();
    private final Kept[] kept = new Kept[3];
    private Rx known = null;

    private Rx rx() {
        if (known == null) {
            known = new Rx(plan);
        }
        // Bits that are heard never change, so more of them can be heard behind.
        while (known.bits.size() < road.heard) {
            known.take(road.line.get(known.bits.size()));
        }
        return known;
    }

    int key(long eight) {
        StringBuilder more = new StringBuilder();
        for (int b = 7; b >= 0; b--) {
            int sign = (int) (eight >> (8 * b) & 255);
            if (sign == 0) {
                break;
            }
            more.append((char) sign);
        }
        if (text.length() + more.length() > 300) {
            return NONE;
        }
        text += more;
        return text.length();
    }

    private static List<Token> tokens(String t) {
        List<Token> all = new ArrayList<>();
        int i = 0;
        while (i < t.length()) {
            char c = t.charAt(i);
            int j = i + 1;
            if (c == ' ' || c == '\n') {
                i++;
                continue;
            }
            if (c >= 'a' && c <= 'z') {
                while (j < t.length() && t.charAt(j) >= 'a' && t.charAt(j) <= 'z') {
                    j++;
                }
                all.add(new Token('w', i, t.substring(i, j)));
            } else if (c >= '0' && c <= '9') {
                while (j < t.length() && t.charAt(j) >= '0' && t.charAt(j) <= '9') {
                    j++;
                }
                all.add(new Token(j - i > 12 ? '?' : 'n', i, t.substring(i, j)));
            } else {
                all.add(new Token(c == ';' ? ';' : '?', i, "" + c));
            }
            i = j;
        }
        all.add(new Token('e', t.length(), ""));
        return all;
    }

    /** The first token that can not stand, or null. */
    private static Token misplaced(List<Token> all) {
        int i = 0;
        while (all.get(i).kind() != 'e') {
            Token head = all.get(i);
            i++;
            if (head.kind() != 'w') {
                return head;
            }
            if (head.sign().equals("roles")) {
                int first = i;
                while ((all.get(i).kind() + all.get(i).sign()).matches("n[01]+|w[cd]+")) {
                    i++;
                }
                if (i == first) {
                    return all.get(i);
                }
            } else if (("length poly width stolen least drift lag wrong").matches(".*\\b" + head.sign() + "\\b.*")) {
                for (int n = head.sign().equals("wrong") ? 2 : 1; n > 0; n--) {
                    if (all.get(i).kind() != 'n') {
                        return all.get(i);
                    }
                    i++;
                }
            } else {
                return head;
            }
            if (all.get(i).kind() != ';') {
                return all.get(i);
            }
            i++;
        }
        return null;
    }

    private static boolean can(Token t, int low, int high) {
        return t.sign().length() <= 3 && Integer.parseInt(t.sign()) >= low && Integer.parseInt(t.sign()) <= high;
    }

    /** The place of the first that can not be, or NONE; p becomes as told. */
    private static int impossible(List<Token> all, Plan p) {
        for (int i = 0; all.get(i).kind() != 'e';) {
            Token head = all.get(i);
            StringBuilder row = new StringBuilder();
            int j = i + 1;
            for (; all.get(j).kind() != ';'; j++) {
                row.append(all.get(j).sign());
            }
            Token one = all.get(i + 1);
            int low = switch (head.sign()) { case "length" -> 4; case "width", "wrong" -> 1; case "least" -> 2; default -> 0; };
            int high = switch (head.sign()) { case "length", "least" -> 24; case "poly" -> 63; case "width" -> 8;
                case "stolen" -> 12; case "wrong" -> 4; default -> 50; };
            if (head.sign().equals("roles")) {
                String r = row.toString();
                if (r.length() < 2 || r.length() > 12 || r.replaceAll("[cd]", "").length() < 2
                    || r.replaceAll("[01d]", "").length() > 6) {
                    return head.place();
                }
                p.roles = r;
            } else {
                if (!can(one, low, high)) {
                    return one.place();
                }
                int v = Integer.parseInt(one.sign());
                switch (head.sign()) {
                    case "length" -> p.length = v;
                    case "poly" -> p.poly = v;
                    case "width" -> p.width = v;
                    case "stolen" -> p.stolen = v;
                    case "least" -> p.least = v;
                    case "drift" -> p.drift = v;
                    case "lag" -> p.drift = -v;
                    default -> {
                        Token two = all.get(i + 2);
                        if (!can(two, v, 8)) {
                            return two.place();
                        }
                        p.wrong = v;
                        p.of = Integer.parseInt(two.sign());
                    }
                }
            }
            i = j + 1;
        }
        return NONE;
    }

    int scheme() {
        List<Token> all = tokens(text);
        text = "";
        Token bad = misplaced(all);
        if (bad != null) {
            fault = 1;
            place = bad.place();
            return NONE;
        }
        Plan told = new Plan();
        int where = impossible(all, told);
        if (where != NONE) {
            fault = 2;
            place = where;
            return NONE;
        }
        fault = 0;
        place = NONE;
        plan = told;
        known = null;
        Road fresh = new Road();
        fresh.toSay = road.toSay;
        fresh.said = road.said;
        road = fresh;
        past.clear();
        return plan.superframe();
    }

    int fault(boolean where) {
        return where ? place : fault;
    }

    private void act() {
        past.add(road.copy());
        if (past.size() > 6) {
            past.remove(0);
        }
    }

    int say(int value) {
        if (value < 0 || value > 255 || road.toSay.size() == 8) {
            return NONE;
        }
        act();
        road.toSay.add(value);
        return road.toSay.size();
    }

    private void sendOn(Road r, int n, int seed) {
        int x = seed;
        for (int f = 0; f < n; f++) {
            int start = r.line.size();
            int c = 0;
            for (int p = 0; p < plan.superframe(); p++) {
                switch (plan.roleOfPosition(p)) {
                    case '0' -> r.line.add(0);
                    case '1' -> r.line.add(1);
                    case 'c' -> {
                        r.line.add(r.lastChecks == null ? 0 : r.lastChecks.get(c));
                        c++;
                    }
                    case 'd' -> r.line.add(linkBit(r));
                    default -> {
                        x = x * 1103515245 + 12345;
                        r.line.add((x >>> 16) % 2);
                    }
                }
            }
            r.lastChecks = plan.checks(r.line, start);
        }
    }

    private static int linkBit(Road r) {
        if (r.toSay.isEmpty()) {
            return 1;
        }
        String all = "0" + Integer.toBinaryString(256 + r.toSay.get(0)).substring(1) + "1";
        int bit = all.charAt(r.said) - '0';
        r.said++;
        if (r.said == 10) {
            r.said = 0;
            r.toSay.remove(0);
        }
        return bit;
    }

    int send(int n, int seed) {
        if (n < 1 || n > 8 || road.line.size() + n * plan.superframe() > 4000) {
            return NONE;
        }
        act();
        sendOn(road, n, seed);
        return road.line.size();
    }

    boolean turn(int i) {
        if (i < road.heard || i >= road.line.size()) {
            return false;
        }
        act();
        road.line.set(i, 1 - road.line.get(i));
        return true;
    }

    int lose(int i, int n) {
        if (n < 1 || n > 500 || i < road.heard || (long) i + n > road.line.size()) {
            return NONE;
        }
        act();
        road.line.subList(i, i + n).clear();
        return road.line.size();
    }

    int put(int i, boolean bit) {
        if (i < road.heard || i > road.line.size() || road.line.size() == 4000) {
            return NONE;
        }
        act();
        road.line.add(i, bit ? 1 : 0);
        return road.line.size();
    }

    int hear(int n) {
        if (n < 1 || n > 4000 || road.heard + n > road.line.size()) {
            return NONE;
        }
        act();
        road.heard += n;
        return road.heard;
    }

    int undo() {
        if (past.isEmpty()) {
            return NONE;
        }
        road = past.remove(past.size() - 1);
        known = null;
        return past.size();
    }

    int count(int what) {
        return switch (what) {
            case 0 -> plan.length;
            case 1 -> plan.roles.length();
            case 2 -> plan.poly;
            case 3 -> plan.width;
            case 4 -> plan.stolen;
            case 5 -> plan.least;
            case 6 -> plan.wrong;
            case 7 -> plan.of;
            case 8 -> plan.drift;
            case 9 -> plan.channels();
            case 10 -> plan.c();
            case 11 -> road.line.size();
            case 12 -> road.heard;
            case 13 -> past.size();
            case 14 -> text.length();
            case 15 -> road.toSay.size();
            default -> -1000;
        };
    }

    /** NONE stands for the exception. */
    int role(int frame) {
        return frame < 0 || frame >= plan.roles.length() ? NONE : "01cd".indexOf(plan.roles.charAt(frame));
    }

    int bit(int i) {
        return i < 0 || i >= road.line.size() ? NONE : road.line.get(i);
    }

    int checks(int i) {
        if (i < 0 || (long) i + plan.superframe() > road.line.size()) {
            return NONE;
        }
        int v = 0;
        for (int b : plan.checks(road.line, i)) {
            v = 2 * v + b;
        }
        return v;
    }

    int receiver(int what) {
        return rx().tell(what);
    }

    int candidate(int k) {
        Rx r = rx();
        return r.state != 0 || k < 0 || k >= r.left.size() ? NONE : r.left.get(k);
    }

    int frame(int what) {
        Frame f = rx().last;
        if (f == null || what < 0 || what > 2 && what < 10 || what - 10 >= plan.channels()) {
            return NONE;
        }
        if (what < 2) {
            return what == 0 ? f.number() : f.place();
        }
        int ones = 0;
        int v = 0;
        for (int i = 1; i <= plan.channels() * plan.width; i++) {
            ones += f.bits().get(i);
            if ((i - 1) / plan.width == what - 10) {
                v = 2 * v + f.bits().get(i);
            }
        }
        return what == 2 ? ones : v;
    }

    int signal(int channel) {
        if (channel < 0 || channel >= plan.channels()) {
            return NONE;
        }
        List<Integer> s = rx().signals.get(channel);
        int n = s.size();
        if (n == 0) {
            return NONE;
        }
        if (n < 3) {
            return s.get(n - 1);
        }
        return s.get(n - 1) + s.get(n - 2) + s.get(n - 3) > 1 ? 1 : 0;
    }

    int value(int k) {
        List<Integer> t = rx().taken;
        return k < 0 || k > 7 || k >= t.size() ? NONE : t.get(k);
    }

    int ahead(int n, int seed, int what) {
        if (n < 1 || n > 8 || what < 0 || what > 17) {
            return NONE;
        }
        Road r = road.copy();
        sendOn(r, n, seed);
        Rx x = new Rx(plan);
        for (int b : r.line) {
            x.take(b);
        }
        return x.tell(what);
    }

    int struck(int i, int p) {
        if (i < 0 || i >= road.line.size() || p < 0 || p >= plan.superframe()) {
            return NONE;
        }
        for (int j = i; j < road.line.size(); j++) {
            if (plan.other(p + j - i, road.line.get(j))) {
                return j;
            }
        }
        return NONE;
    }

    int locks(int i) {
        if (i < 0) {
            return NONE;
        }
        Rx x = new Rx(plan);
        for (int j = i; j < road.line.size(); j++) {
            x.take(road.line.get(j));
            if (x.state == 2) {
                return j - i + 1;
            }
        }
        return NONE;
    }

    int from(int i, int what) {
        if (i < 0 || i >= road.line.size() || what < 0 || what > 17) {
            return NONE;
        }
        Rx x = new Rx(plan);
        for (int j = i; j < road.line.size(); j++) {
            x.take(road.line.get(j));
        }
        return x.tell(what);
    }

    private List<Integer> fitting(int n) {
        List<Integer> all = new ArrayList<>();
        for (int p = 0; p < plan.superframe(); p++) {
            int s = road.line.isEmpty() ? NONE : struck(0, p);
            if (s == NONE || s >= n) {
                all.add(p);
            }
        }
        return all;
    }

    int fits(int n, int k) {
        if (n < 0 || n > road.line.size()) {
            return NONE;
        }
        List<Integer> all = fitting(n);
        if (k == NONE) {
            return all.size();
        }
        return k < 0 || k >= all.size() ? NONE : all.get(k);
    }

    int least(int n) {
        if (n < 0 || n > road.line.size()) {
            return NONE;
        }
        int[] struckAt = new int[plan.superframe()];
        for (int p = 0; p < struckAt.length; p++) {
            int s = road.line.isEmpty() ? NONE : struck(0, p);
            struckAt[p] = s == NONE ? Integer.MAX_VALUE : s;
        }
        for (int m = 0; m <= n; m++) {
            int left = 0;
            for (int s : struckAt) {
                left += s >= m ? 1 : 0;
            }
            if (left == 1) {
                return m;
            }
        }
        return NONE;
    }

    int weak() {
        int best = NONE;
        int bestAt = Integer.MAX_VALUE;
        for (int i = road.heard; i < road.heard + 40 && i < road.line.size(); i++) {
            Rx x = new Rx(plan);
            int before = 0;
            for (int j = 0; j < road.heard + 400 && j < road.line.size(); j++) {
                if (j == road.heard) {
                    before = x.lost;
                }
                x.take(j == i ? 1 - road.line.get(j) : road.line.get(j));
                if (j >= road.heard && x.lost > before) {
                    if (j < bestAt) {
                        bestAt = j;
                        best = i;
                    }
                    break;
                }
            }
        }
        return best;
    }

    boolean image(int k) {
        if (k < 0 || k > 2) {
            return false;
        }
        Kept all = new Kept();
        all.plan = plan;
        all.text = text;
        all.fault = fault;
        all.place = place;
        all.road = road.copy();
        kept[k] = all;
        return true;
    }

    boolean again(int k) {
        if (k < 0 || k > 2 || kept[k] == null) {
            return false;
        }
        Kept all = kept[k];
        plan = all.plan;
        text = all.text;
        fault = all.fault;
        place = all.place;
        road = all.road.copy();
        known = null;
        past.clear();
        return true;
    }
}
