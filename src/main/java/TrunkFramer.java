import java.util.NoSuchElementException;

/**
 * A framer for a trunk: a sender of frames, a line that can be damaged, a receiver that finds the
 * frames again, and a store of two frames between two clocks. What each call answers is said by the
 * numbered promises of the document.
 *
 * All rows are made in constructors: no call makes an object.
 */
public final class TrunkFramer {
    public static final int NONE = -1;

    private static final int NO_COUNT = -1000;
    private static final int MOST_BITS = 4000;
    private static final int MOST_BYTES = 300;
    private static final int MOST_SENT = 8;
    private static final int MOST_LOST = 500;
    private static final int MOST_VALUES = 8;
    private static final int LONGEST_FRAME = 24;
    private static final int MOST_ROLES = 12;
    private static final int TRIAL_BITS = MOST_BITS + MOST_SENT * LONGEST_FRAME * MOST_ROLES;
    private static final int MOST_ACTS = 6;
    private static final int IMAGES = 3;
    private static final int WEAK_BITS = 40;
    private static final int WEAK_SIGHT = 400;

    private static final int CHECK = 2;
    private static final int LINK = 3;

    private static final int HUNTS = 0;
    private static final int VERIFIES = 1;
    private static final int LOCKED = 2;
    private static final int RECEIVER_WHATS = 18;

    private final Whole now;
    private final Whole[] kept;
    private final boolean[] isKept;
    /** What was ahead of the acts that can be undone, the oldest first. */
    private final Trunk[] past;
    private int acts;
    /** What would be is tried here; nothing of it lasts from call to call. */
    private final Trunk trial;
    private final Reader reader;

    public TrunkFramer() {
        now = new Whole();
        kept = new Whole[IMAGES];
        isKept = new boolean[IMAGES];
        for (int k = 0; k < IMAGES; k++) {
            kept[k] = new Whole();
        }
        past = new Trunk[MOST_ACTS];
        for (int a = 0; a < MOST_ACTS; a++) {
            past[a] = new Trunk(MOST_BITS);
        }
        trial = new Trunk(TRIAL_BITS);
        reader = new Reader();
    }

    public int key(long eight) {
        return now.text.append(eight);
    }

    public int scheme() {
        Text text = now.text;
        reader.readWhole(text);
        text.size = 0;
        text.flaw = reader.flaw;
        text.flawPlace = reader.flawPlace;
        if (reader.flaw != 0) {
            return NONE;
        }
        now.plan.copyFrom(reader.told);
        now.trunk.restart(now.plan);
        acts = 0;
        return now.plan.superframe;
    }

    public int fault(boolean place) {
        return place ? now.text.flawPlace : now.text.flaw;
    }

    // ---- acts

    public int say(int value) {
        Sender sender = now.trunk.sender;
        if (value < 0 || value > 255 || sender.waiting >= MOST_VALUES) {
            return NONE;
        }
        remember();
        sender.enqueue(value);
        return sender.waiting;
    }

    public int send(int n, int seed) {
        Trunk trunk = now.trunk;
        if (n < 1 || n > MOST_SENT || trunk.line.size + n * now.plan.superframe > MOST_BITS) {
            return NONE;
        }
        remember();
        trunk.sender.transmit(now.plan, trunk.line, n, seed);
        return trunk.line.size;
    }

    public boolean turn(int i) {
        Trunk trunk = now.trunk;
        if (i < trunk.heard || i >= trunk.line.size) {
            return false;
        }
        remember();
        trunk.line.flip(i);
        return true;
    }

    public int lose(int i, int n) {
        Trunk trunk = now.trunk;
        if (n < 1 || n > MOST_LOST || i < trunk.heard || i > trunk.line.size - n) {
            return NONE;
        }
        remember();
        trunk.line.cut(i, n);
        return trunk.line.size;
    }

    public int put(int i, boolean bit) {
        Trunk trunk = now.trunk;
        if (i < trunk.heard || i > trunk.line.size || trunk.line.size >= MOST_BITS) {
            return NONE;
        }
        remember();
        trunk.line.insert(i, bit ? 1 : 0);
        return trunk.line.size;
    }

    public int hear(int n) {
        Trunk trunk = now.trunk;
        if (n < 1 || n > MOST_BITS || n > trunk.line.size - trunk.heard) {
            return NONE;
        }
        remember();
        trunk.listen(now.plan, trunk.heard + n);
        return trunk.heard;
    }

    public int undo() {
        if (acts < 1 || acts > MOST_ACTS) {
            return NONE;
        }
        acts--;
        now.trunk.copyFrom(past[acts]);
        return acts;
    }

    // ---- what there is

    public int count(int what) {
        Scheme plan = now.plan;
        switch (what) {
            case 0: return plan.length;
            case 1: return plan.roleCount;
            case 2: return plan.poly;
            case 3: return plan.width;
            case 4: return plan.stolen;
            case 5: return plan.fewest;
            case 6: return plan.wrong;
            case 7: return plan.latest;
            case 8: return plan.drift;
            case 9: return plan.channels;
            case 10: return plan.checkBits;
            case 11: return now.trunk.line.size;
            case 12: return now.trunk.heard;
            case 13: return acts;
            case 14: return now.text.size;
            case 15: return now.trunk.sender.waiting;
            default: return NO_COUNT;
        }
    }

    public int role(int frame) throws NoSuchElementException {
        int found = now.plan.roleAt(frame);
        if (found == NONE) {
            throw new NoSuchElementException("no such frame");
        }
        return found;
    }

    public int bit(int i) {
        return now.trunk.line.at(i);
    }

    public int checks(int i) {
        Line line = now.trunk.line;
        if (i < 0 || i > line.size - now.plan.superframe) {
            return NONE;
        }
        return now.plan.checksOf(line, i);
    }

    public int receiver(int what) {
        return now.trunk.receiver.tell(now.plan, what);
    }

    public int candidate(int k) {
        Receiver receiver = now.trunk.receiver;
        return receiver.mode == HUNTS ? receiver.hunt.nth(now.plan, k) : NONE;
    }

    public int frame(int what) {
        Store store = now.trunk.receiver.store;
        if (store.read == 0) {
            return NONE;
        }
        if (what == 0) {
            return store.readNumber;
        }
        if (what == 1) {
            return store.readPlace;
        }
        if (what == 2) {
            return channelOnes(store.readStart);
        }
        return what < 10 ? NONE : channelNumber(store.readStart, what - 10);
    }

    public int signal(int channel) {
        Store store = now.trunk.receiver.store;
        Scheme plan = now.plan;
        if (channel < 0 || channel >= plan.channels || store.signals == 0) {
            return NONE;
        }
        int last = (channel + 1) * plan.width;
        Line line = now.trunk.line;
        int newest = line.at(store.signalStart + last);
        if (store.signals < 3) {
            return newest;
        }
        int ones = newest + line.at(store.signalStart2 + last) + line.at(store.signalStart3 + last);
        return ones >= 2 ? 1 : 0;
    }

    public int value(int k) {
        return now.trunk.receiver.ear.nth(k);
    }

    // ---- what would be

    public int ahead(int n, int seed, int what) {
        if (n < 1 || n > MOST_SENT || what < 0 || what >= RECEIVER_WHATS) {
            return NONE;
        }
        trial.copyFrom(now.trunk);
        trial.sender.transmit(now.plan, trial.line, n, seed);
        trial.listen(now.plan, trial.line.size);
        return trial.receiver.tell(now.plan, what);
    }

    public int struck(int i, int p) {
        Scheme plan = now.plan;
        Line line = now.trunk.line;
        if (i < 0 || i >= line.size || p < 0 || p >= plan.superframe || plan.length < 1) {
            return NONE;
        }
        int started = plan.framesStarted(p);
        int place = started >= plan.roleCount ? 0 : started;
        int at = i + started * plan.length - p;
        for (; at < line.size; at += plan.length) {
            if (plan.isOther(place, line.at(at))) {
                return at;
            }
            place = plan.placeBehind(place);
        }
        return NONE;
    }

    public int locks(int i) {
        Line line = now.trunk.line;
        if (i < 0 || i >= line.size) {
            return NONE;
        }
        Receiver fresh = trial.receiver;
        fresh.begin(now.plan);
        for (int at = i; at < line.size; at++) {
            fresh.take(now.plan, line, at);
            if (fresh.locked > 0) {
                return at + 1 - i;
            }
        }
        return NONE;
    }

    public int from(int i, int what) {
        Line line = now.trunk.line;
        if (i < 0 || i >= line.size || what < 0 || what >= RECEIVER_WHATS) {
            return NONE;
        }
        Receiver fresh = trial.receiver;
        fresh.begin(now.plan);
        for (int at = i; at < line.size; at++) {
            fresh.take(now.plan, line, at);
        }
        return fresh.tell(now.plan, what);
    }

    public int fits(int n, int k) {
        Line line = now.trunk.line;
        if (n < 0 || n > line.size) {
            return NONE;
        }
        Hunt hunt = trial.receiver.hunt;
        hunt.begin(now.plan);
        for (int at = 0; at < n && hunt.left > 0; at++) {
            hunt.follow(now.plan, line.at(at));
        }
        return k == NONE ? hunt.left : hunt.nth(now.plan, k);
    }

    public int least(int n) {
        Line line = now.trunk.line;
        if (n < 0 || n > line.size) {
            return NONE;
        }
        Hunt hunt = trial.receiver.hunt;
        hunt.begin(now.plan);
        for (int at = 0; at < n && hunt.left > 1; at++) {
            hunt.follow(now.plan, line.at(at));
        }
        return hunt.left == 1 ? hunt.heard : NONE;
    }

    public int weak() {
        trial.copyFrom(now.trunk);
        int first = trial.heard;
        int behind = Math.min(trial.line.size, first + WEAK_BITS);
        int end = Math.min(trial.line.size, first + WEAK_SIGHT);
        int weakest = NONE;
        for (int i = first; i < behind; i++) {
            trial.line.flip(i);
            int lostAt = firstLoss(first, end);
            trial.line.flip(i);
            if (lostAt != NONE) {
                weakest = i;
                // A later bit is weaker only if the loss comes ahead of this one.
                end = lostAt;
            }
        }
        return weakest;
    }

    // ---- kept

    public boolean image(int k) {
        if (k < 0 || k >= IMAGES) {
            return false;
        }
        kept[k].copyFrom(now);
        isKept[k] = true;
        return true;
    }

    public boolean again(int k) {
        if (k < 0 || k >= IMAGES || !isKept[k]) {
            return false;
        }
        now.copyFrom(kept[k]);
        acts = 0;
        return true;
    }

    // ---- helpers of the face

    /** Keeps the trunk as it is ahead of an act; the oldest of six is given up for it. */
    private void remember() {
        if (acts >= MOST_ACTS) {
            Trunk oldest = past[0];
            for (int a = 1; a < MOST_ACTS; a++) {
                past[a - 1] = past[a];
            }
            past[MOST_ACTS - 1] = oldest;
            acts = MOST_ACTS - 1;
        }
        past[acts].copyFrom(now.trunk);
        acts++;
    }

    private int channelOnes(int start) {
        int end = start + now.plan.channels * now.plan.width;
        int ones = 0;
        for (int at = start + 1; at <= end; at++) {
            ones += now.trunk.line.at(at);
        }
        return ones;
    }

    private int channelNumber(int start, int channel) {
        Scheme plan = now.plan;
        if (channel < 0 || channel >= plan.channels) {
            return NONE;
        }
        int first = start + 1 + channel * plan.width;
        int number = 0;
        for (int b = 0; b < plan.width; b++) {
            number = number * 2 + now.trunk.line.at(first + b);
        }
        return number;
    }

    /** The bit, from first to ahead of end, by which the receiver is lost on the line of the trial. */
    private int firstLoss(int first, int end) {
        Receiver receiver = trial.receiver;
        receiver.copyFrom(now.trunk.receiver);
        int lostBefore = receiver.lost;
        for (int at = first; at < end; at++) {
            receiver.take(now.plan, trial.line, at);
            if (receiver.lost != lostBefore) {
                return at;
            }
        }
        return NONE;
    }

    // ---- all that there is

    private static final class Whole {
        final Scheme plan = new Scheme();
        final Text text = new Text();
        final Trunk trunk = new Trunk(MOST_BITS);

        void copyFrom(Whole other) {
            plan.copyFrom(other.plan);
            text.copyFrom(other.text);
            trunk.copyFrom(other.trunk);
        }
    }

    /** What acts change: who sends, the line, who hears. */
    private static final class Trunk {
        final Line line;
        final Sender sender = new Sender();
        final Receiver receiver = new Receiver();
        int heard;

        Trunk(int room) {
            line = new Line(room);
        }

        /** By a new scheme: values that are to be said stay, the document takes none away. */
        void restart(Scheme plan) {
            line.size = 0;
            heard = 0;
            sender.lastChecks = 0;
            receiver.begin(plan);
        }

        void listen(Scheme plan, int end) {
            for (int at = heard; at < end; at++) {
                receiver.take(plan, line, at);
            }
            heard = end;
        }

        void copyFrom(Trunk other) {
            line.copyFrom(other.line);
            sender.copyFrom(other.sender);
            receiver.copyFrom(other.receiver);
            heard = other.heard;
        }
    }

    // ---- the scheme and its text

    private static final class Scheme {
        int length;
        final int[] roles = new int[MOST_ROLES];
        int roleCount;
        int poly;
        int width;
        int stolen;
        int fewest;
        int wrong;
        int latest;
        int drift;
        int superframe;
        int channels;
        int checkBits;
        /** Frames, one bit each, whose role is 0; 1; any. */
        int zeros;
        int ones;
        int allFrames;

        Scheme() {
            begin();
        }

        void begin() {
            length = 8;
            roles[0] = 0;
            roles[1] = 0;
            roles[2] = 1;
            roles[3] = 0;
            roles[4] = 1;
            roles[5] = 1;
            roleCount = 6;
            poly = 0;
            width = 7;
            stolen = 0;
            fewest = 4;
            wrong = 2;
            latest = 4;
            drift = 0;
            derive();
        }

        /** What follows from what is told. */
        void derive() {
            superframe = length * roleCount;
            channels = width > 0 ? (length - 1) / width : 0;
            checkBits = 0;
            zeros = 0;
            ones = 0;
            allFrames = (1 << roleCount) - 1;
            for (int f = 0; f < roleCount && f < MOST_ROLES; f++) {
                if (roles[f] == CHECK) {
                    checkBits++;
                } else if (roles[f] == 0) {
                    zeros |= 1 << f;
                } else if (roles[f] == 1) {
                    ones |= 1 << f;
                }
            }
        }

        void copyFrom(Scheme other) {
            length = other.length;
            System.arraycopy(other.roles, 0, roles, 0, MOST_ROLES);
            roleCount = other.roleCount;
            poly = other.poly;
            width = other.width;
            stolen = other.stolen;
            fewest = other.fewest;
            wrong = other.wrong;
            latest = other.latest;
            drift = other.drift;
            superframe = other.superframe;
            channels = other.channels;
            checkBits = other.checkBits;
            zeros = other.zeros;
            ones = other.ones;
            allFrames = other.allFrames;
        }

        int roleAt(int place) {
            return place >= 0 && place < roleCount && place < MOST_ROLES ? roles[place] : NONE;
        }

        int placeBehind(int place) {
            return place + 1 >= roleCount ? 0 : place + 1;
        }

        boolean isFixed(int place) {
            return ((zeros | ones) >> place & 1) == 1;
        }

        /** The bit, taken for the first one of that frame, is the other one of its role 0 or 1. */
        boolean isOther(int place, int bit) {
            return ((bit == 0 ? ones : zeros) >> place & 1) == 1;
        }

        boolean isSignalPlace(int place) {
            return stolen > 0 && (place + 1) % stolen == 0;
        }

        /** How many frames start at positions 0 to position - 1, superframes going on without end. */
        int framesStarted(int position) {
            return length > 0 ? (position + length - 1) / length : 0;
        }

        /** How many of these have the role 0 or 1. */
        int fixedStarted(int position) {
            if (roleCount < 1) {
                return 0;
            }
            int frames = framesStarted(position);
            int turns = frames / roleCount;
            int rest = frames - turns * roleCount;
            int fixed = zeros | ones;
            return turns * Integer.bitCount(fixed) + Integer.bitCount(fixed & ((1 << rest) - 1));
        }

        int checksOf(Line line, int start) {
            if (checkBits < 1) {
                return 0;
            }
            int mask = (1 << checkBits) - 1;
            int turned = poly & mask;
            int top = checkBits - 1;
            int register = 0;
            int at = start;
            for (int f = 0; f < roleCount; f++) {
                boolean isCheck = roleAt(f) == CHECK;
                for (int b = 0; b < length; b++) {
                    int bit = isCheck && b == 0 ? 1 : line.at(at);
                    boolean unlike = (register >> top & 1) != bit;
                    register = register << 1 & mask;
                    if (unlike) {
                        register ^= turned;
                    }
                    at++;
                }
            }
            return register;
        }

        /** The bits of c of the superframe from start on are the checks of the one ahead of it. */
        boolean checksHold(Line line, int start) {
            int told = 0;
            for (int f = 0; f < roleCount; f++) {
                if (roleAt(f) == CHECK) {
                    told = told * 2 + line.at(start + f * length);
                }
            }
            return told == checksOf(line, start - superframe);
        }
    }

    private static final class Text {
        final byte[] bytes = new byte[MOST_BYTES];
        int size;
        int flaw;
        int flawPlace = NONE;

        int append(long eight) {
            int more = 0;
            while (more < 8 && byteOf(eight, more) != 0) {
                more++;
            }
            if (size + more > MOST_BYTES) {
                return NONE;
            }
            for (int b = 0; b < more; b++) {
                bytes[size + b] = (byte) byteOf(eight, b);
            }
            size += more;
            return size;
        }

        static int byteOf(long eight, int b) {
            return (int) (eight >>> (56 - 8 * b)) & 255;
        }

        int at(int i) {
            return i >= 0 && i < size && i < MOST_BYTES ? bytes[i] & 255 : NONE;
        }

        void copyFrom(Text other) {
            size = Math.max(0, Math.min(other.size, MOST_BYTES));
            System.arraycopy(other.bytes, 0, bytes, 0, size);
            flaw = other.flaw;
            flawPlace = other.flawPlace;
        }
    }

    /** Reads a text, token by token, into a scheme of its own. */
    private static final class Reader {
        private static final int MISPLACED = 1;
        private static final int IMPOSSIBLE = 2;

        private static final int END = 0;
        private static final int WORD = 1;
        private static final int NUMBER = 2;
        private static final int SIGN = 3;
        private static final int NO_TOKEN = 4;

        private static final int DIGITS_OF_NUMBER = 12;
        private static final int DIGITS_OF_VALUE = 3;

        final Scheme told = new Scheme();
        final Text text = new Text();
        int flaw;
        int flawPlace;
        /** The token that is looked at: its kind, its first byte, the byte behind it. */
        private int kind;
        private int start;
        private int end;

        void readWhole(Text source) {
            text.copyFrom(source);
            told.begin();
            flaw = 0;
            flawPlace = NONE;
            end = 0;
            step();
            for (int n = 0; n <= MOST_BYTES && kind != END && flaw != MISPLACED; n++) {
                readStatement();
            }
            if (flaw == 0) {
                told.derive();
            }
        }

        private void readStatement() {
            int head = start;
            if (isWord("roles")) {
                step();
                readRow(head);
            } else if (isWord("wrong")) {
                step();
                told.wrong = readNumber(1, 4);
                told.latest = readNumber(told.wrong, 8);
            } else {
                readSingle();
            }
            if (flaw == MISPLACED) {
                return;
            }
            if (kind != SIGN) {
                misplace();
                return;
            }
            step();
        }

        private void readSingle() {
            if (isWord("length")) {
                step();
                told.length = readNumber(4, LONGEST_FRAME);
            } else if (isWord("poly")) {
                step();
                told.poly = readNumber(0, 63);
            } else if (isWord("width")) {
                step();
                told.width = readNumber(1, 8);
            } else if (isWord("stolen")) {
                step();
                told.stolen = readNumber(0, 12);
            } else if (isWord("least")) {
                step();
                told.fewest = readNumber(2, 24);
            } else if (isWord("drift")) {
                step();
                told.drift = readNumber(0, 50);
            } else if (isWord("lag")) {
                step();
                told.drift = -readNumber(0, 50);
            } else {
                misplace();
            }
        }

        /** A number that can be, and steps behind it; else the flaw is noted. */
        private int readNumber(int lowest, int highest) {
            if (flaw == MISPLACED) {
                return lowest;
            }
            if (kind != NUMBER) {
                misplace();
                return lowest;
            }
            int value = 0;
            boolean can = end - start <= DIGITS_OF_VALUE;
            for (int i = start; can && i < end; i++) {
                value = value * 10 + text.at(i) - '0';
            }
            if (!can || value < lowest || value > highest) {
                impossible(start);
                value = lowest;
            }
            step();
            return value;
        }

        private void readRow(int head) {
            int signs = 0;
            int fixed = 0;
            int checks = 0;
            if (kind != WORD && kind != NUMBER) {
                misplace();
                return;
            }
            for (int n = 0; n <= MOST_BYTES && (kind == WORD || kind == NUMBER); n++) {
                for (int i = start; i < end; i++) {
                    int found = roleOf(text.at(i));
                    if (found == NONE) {
                        misplace();
                        return;
                    }
                    if (signs < MOST_ROLES) {
                        told.roles[signs] = found;
                    }
                    signs++;
                    fixed += found < CHECK ? 1 : 0;
                    checks += found == CHECK ? 1 : 0;
                }
                step();
            }
            if (signs < 2 || signs > MOST_ROLES || fixed < 2 || checks > 6) {
                impossible(head);
            } else {
                told.roleCount = signs;
            }
        }

        private static int roleOf(int sign) {
            switch (sign) {
                case '0': return 0;
                case '1': return 1;
                case 'c': return CHECK;
                case 'd': return LINK;
                default: return NONE;
            }
        }

        /** It strikes an impossible number ahead of it: those count only where all can stand. */
        private void misplace() {
            flaw = MISPLACED;
            flawPlace = start;
        }

        private void impossible(int place) {
            if (flaw == 0) {
                flaw = IMPOSSIBLE;
                flawPlace = place;
            }
        }

        private boolean isWord(String word) {
            if (kind != WORD || end - start != word.length()) {
                return false;
            }
            for (int i = 0; i < word.length(); i++) {
                if (text.at(start + i) != word.charAt(i)) {
                    return false;
                }
            }
            return true;
        }

        /** Looks at the next token. */
        private void step() {
            start = end;
            while (start < text.size && isBlank(text.at(start))) {
                start++;
            }
            end = start;
            if (start >= text.size) {
                kind = END;
            } else if (isLetter(text.at(start))) {
                kind = WORD;
                while (end < text.size && isLetter(text.at(end))) {
                    end++;
                }
            } else if (isDigit(text.at(start))) {
                while (end < text.size && isDigit(text.at(end))) {
                    end++;
                }
                kind = end - start <= DIGITS_OF_NUMBER ? NUMBER : NO_TOKEN;
            } else {
                kind = text.at(start) == ';' ? SIGN : NO_TOKEN;
                end++;
            }
        }

        private static boolean isBlank(int sign) {
            return sign == 32 || sign == 10;
        }

        private static boolean isLetter(int sign) {
            return sign >= 'a' && sign <= 'z';
        }

        private static boolean isDigit(int sign) {
            return sign >= '0' && sign <= '9';
        }
    }

    // ---- the line and who sends

    private static final class Line {
        private final byte[] bits;
        int size;

        Line(int room) {
            bits = new byte[Math.max(0, room)];
        }

        int at(int i) {
            return i >= 0 && i < size && i < bits.length ? bits[i] : NONE;
        }

        void append(int bit) {
            if (size >= 0 && size < bits.length) {
                bits[size] = (byte) bit;
                size++;
            }
        }

        void flip(int i) {
            if (i >= 0 && i < size && i < bits.length) {
                bits[i] = (byte) (1 - bits[i]);
            }
        }

        void cut(int i, int n) {
            if (i >= 0 && n >= 0 && size <= bits.length && i <= size - n) {
                System.arraycopy(bits, i + n, bits, i, size - n - i);
                size -= n;
            }
        }

        void insert(int i, int bit) {
            if (i >= 0 && i <= size && size < bits.length) {
                System.arraycopy(bits, i, bits, i + 1, size - i);
                bits[i] = (byte) bit;
                size++;
            }
        }

        void copyFrom(Line other) {
            size = Math.max(0, Math.min(other.size, Math.min(other.bits.length, bits.length)));
            System.arraycopy(other.bits, 0, bits, 0, size);
        }
    }

    private static final class Sender {
        private static final int BITS_OF_VALUE = 8;

        private final int[] values = new int[MOST_VALUES];
        int waiting;
        /** How many bits of the first value, its 0 ahead and its 1 behind too, are sent. */
        private int begun;
        int lastChecks;

        void enqueue(int value) {
            if (waiting >= 0 && waiting < MOST_VALUES) {
                values[waiting] = value;
                waiting++;
            }
        }

        void transmit(Scheme plan, Line line, int n, int seed) {
            int x = seed;
            for (int i = 0; i < n; i++) {
                x = transmitOne(plan, line, x);
            }
        }

        private int transmitOne(Scheme plan, Line line, int seed) {
            int x = seed;
            int start = line.size;
            int checksLeft = plan.checkBits;
            for (int f = 0; f < plan.roleCount; f++) {
                int role = plan.roleAt(f);
                if (role == CHECK) {
                    checksLeft--;
                    line.append(lastChecks >> checksLeft & 1);
                } else {
                    line.append(role == LINK ? linkBit() : role);
                }
                for (int b = 1; b < plan.length; b++) {
                    x = x * 1103515245 + 12345;
                    line.append(x >>> 16 & 1);
                }
            }
            lastChecks = plan.checksOf(line, start);
            return x;
        }

        private int linkBit() {
            if (waiting == 0) {
                return 1;
            }
            if (begun > BITS_OF_VALUE) {
                dequeue();
                return 1;
            }
            int bit = begun == 0 ? 0 : values[0] >> (BITS_OF_VALUE - begun) & 1;
            begun++;
            return bit;
        }

        private void dequeue() {
            for (int i = 1; i < MOST_VALUES; i++) {
                values[i - 1] = values[i];
            }
            waiting--;
            begun = 0;
        }

        void copyFrom(Sender other) {
            System.arraycopy(other.values, 0, values, 0, MOST_VALUES);
            waiting = other.waiting;
            begun = other.begun;
            lastChecks = other.lastChecks;
        }
    }

    // ---- who hears

    private static final class Receiver {
        int mode;
        final Hunt hunt = new Hunt();
        final Store store = new Store();
        final Ear ear = new Ear();
        private int starts;
        private int mimics;
        int locked;
        int lost;
        /** The position of the next bit, as long as one is followed. */
        private int place;
        private int offset;
        private int since;
        /** The latest bits of role 0 or 1 since it is locked: 1 for a wrong one. */
        private int history;
        private int badChecks;

        Receiver() {
            begin(new Scheme());
        }

        void begin(Scheme plan) {
            mode = HUNTS;
            hunt.begin(plan);
            store.begin();
            ear.begin();
            starts = 1;
            mimics = 0;
            locked = 0;
            lost = 0;
            place = 0;
            offset = 0;
            since = 0;
            history = 0;
            badChecks = 0;
        }

        /** Hears one bit of the line; what was heard ahead of it stands on the same line. */
        void take(Scheme plan, Line line, int at) {
            int bit = line.at(at);
            since++;
            if (mode == HUNTS) {
                takeHunting(plan, bit);
            } else if (mode == VERIFIES) {
                takeVerifying(plan, line, at);
            } else {
                takeLocked(plan, line, at);
            }
            store.tick(plan);
        }

        private void takeHunting(Scheme plan, int bit) {
            hunt.follow(plan, bit);
            if (hunt.left == 0) {
                huntAnew(plan);
            } else if (hunt.left == 1 && hunt.fixedHeard(plan) >= plan.fewest) {
                followLone(plan);
            }
        }

        private void followLone(Scheme plan) {
            if (plan.superframe < 1 || plan.length < 1) {
                return;
            }
            int position = (hunt.lone(plan) + hunt.heard) % plan.superframe;
            place = position / plan.length;
            offset = position - place * plan.length;
            if (plan.checkBits > 0) {
                mode = VERIFIES;
                since = 0;
            } else {
                lock();
            }
        }

        private void takeVerifying(Scheme plan, Line line, int at) {
            if (offset == 0 && plan.isOther(place, line.at(at))) {
                huntAnew(plan);
                return;
            }
            advance(plan);
            if (!isJudged(plan)) {
                return;
            }
            if (plan.checksHold(line, at + 1 - plan.superframe)) {
                lock();
            } else {
                mimics++;
                huntAnew(plan);
            }
        }

        private void takeLocked(Scheme plan, Line line, int at) {
            if (offset == 0) {
                takeFirst(plan, line.at(at));
                if (mode != LOCKED) {
                    return;
                }
            }
            int ended = place;
            advance(plan);
            if (offset != 0) {
                return;
            }
            if (since >= plan.length) {
                store.come(at + 1 - plan.length, ended);
            }
            if (isJudged(plan) && !plan.checksHold(line, at + 1 - plan.superframe)) {
                badChecks++;
            }
        }

        /** The first bit of a frame, while it is locked. */
        private void takeFirst(Scheme plan, int bit) {
            if (plan.isFixed(place)) {
                int wrong = plan.isOther(place, bit) ? 1 : 0;
                history = (history << 1 | wrong) & ((1 << plan.latest) - 1);
                if (Integer.bitCount(history) >= plan.wrong) {
                    lost++;
                    huntAnew(plan);
                }
            } else if (plan.roleAt(place) == LINK) {
                ear.take(bit);
            }
        }

        /** A superframe has ended, and the one ahead of it was heard whole since, too. */
        private boolean isJudged(Scheme plan) {
            return place == 0 && offset == 0 && plan.checkBits > 0 && since >= 2 * plan.superframe;
        }

        private void advance(Scheme plan) {
            offset++;
            if (offset >= plan.length) {
                offset = 0;
                place = plan.placeBehind(place);
            }
        }

        private void lock() {
            mode = LOCKED;
            locked++;
            since = 0;
            history = 0;
            ear.forget();
        }

        private void huntAnew(Scheme plan) {
            mode = HUNTS;
            starts++;
            since = 0;
            hunt.begin(plan);
        }

        int tell(Scheme plan, int what) {
            switch (what) {
                case 0: return mode;
                case 1: return mode == HUNTS ? hunt.left : 1;
                case 2: return starts;
                case 3: return mimics;
                case 4: return locked;
                case 5: return lost;
                case 6: return mode == HUNTS ? NONE : place * plan.length + offset;
                case 7: return since;
                case 8: return mode == LOCKED ? Integer.bitCount(history) : 0;
                case 9: return badChecks;
                case 10: return store.came;
                case 11: return store.dropped;
                case 12: return store.read;
                case 13: return store.repeated;
                case 14: return store.held;
                case 15: return store.clock;
                case 16: return ear.taken;
                case 17: return ear.spoilt;
                default: return NONE;
            }
        }

        void copyFrom(Receiver other) {
            mode = other.mode;
            hunt.copyFrom(other.hunt);
            store.copyFrom(other.store);
            ear.copyFrom(other.ear);
            starts = other.starts;
            mimics = other.mimics;
            locked = other.locked;
            lost = other.lost;
            place = other.place;
            offset = other.offset;
            since = other.since;
            history = other.history;
            badChecks = other.badChecks;
        }
    }

    /**
     * All candidates at once: a candidate that is place * length + offset is the bit of its place in
     * the row of its offset. By each bit that is heard one row alone can be struck: the one by which
     * this bit is the first one of a frame.
     */
    private static final class Hunt {
        private final int[] rows = new int[LONGEST_FRAME];
        int left;
        int heard;
        /** The row whose candidates have the first bit of a frame next, and how many frames on. */
        private int due;
        private int framesOn;
        private int only;

        void begin(Scheme plan) {
            for (int r = 0; r < plan.length && r < LONGEST_FRAME; r++) {
                rows[r] = plan.allFrames;
            }
            left = plan.superframe;
            heard = 0;
            due = 0;
            framesOn = 0;
            only = NONE;
        }

        void follow(Scheme plan, int bit) {
            if (due < 0 || due >= LONGEST_FRAME) {
                return;
            }
            int others = bit == 0 ? plan.ones : plan.zeros;
            int turned = others >> framesOn | others << (plan.roleCount - framesOn);
            int struck = rows[due] & turned;
            rows[due] ^= struck;
            left -= Integer.bitCount(struck);
            heard++;
            if (due > 0) {
                due--;
            } else {
                due = plan.length - 1;
                framesOn = plan.placeBehind(framesOn);
            }
        }

        /** The k-th candidate that is left, rising. */
        int nth(Scheme plan, int k) {
            if (k < 0 || k >= left) {
                return NONE;
            }
            int passed = 0;
            for (int f = 0; f < plan.roleCount; f++) {
                for (int r = 0; r < plan.length && r < LONGEST_FRAME; r++) {
                    passed += rows[r] >> f & 1;
                    if (passed > k) {
                        return f * plan.length + r;
                    }
                }
            }
            return NONE;
        }

        /** The only one that is left; it is looked for once. */
        int lone(Scheme plan) {
            if (only == NONE) {
                only = nth(plan, 0);
            }
            return only;
        }

        /** How many bits of role 0 or 1 were heard, by the only one that is left. */
        int fixedHeard(Scheme plan) {
            int first = lone(plan);
            return plan.fixedStarted(first + heard) - plan.fixedStarted(first);
        }

        void copyFrom(Hunt other) {
            System.arraycopy(other.rows, 0, rows, 0, LONGEST_FRAME);
            left = other.left;
            heard = other.heard;
            due = other.due;
            framesOn = other.framesOn;
            only = other.only;
        }
    }

    /**
     * Two frames between two clocks. Of a frame it keeps where it starts on the line: what is heard
     * stays there as it was.
     */
    private static final class Store {
        int held;
        int came;
        int dropped;
        int read;
        int repeated;
        int clock;
        private int olderStart;
        private int olderPlace;
        private int newerStart;
        private int newerPlace;
        int readStart;
        int readPlace;
        int readNumber;
        /** Frames with signals that were read, the latest three at most, the latest first. */
        int signals;
        int signalStart;
        int signalStart2;
        int signalStart3;

        void begin() {
            held = 0;
            came = 0;
            dropped = 0;
            read = 0;
            repeated = 0;
            clock = 0;
            signals = 0;
        }

        void come(int start, int place) {
            if (held >= 2) {
                dropped++;
                dropOlder();
            }
            if (held == 0) {
                olderStart = start;
                olderPlace = place;
            } else {
                newerStart = start;
                newerPlace = place;
            }
            held++;
            came++;
        }

        private void dropOlder() {
            olderStart = newerStart;
            olderPlace = newerPlace;
            held--;
        }

        void tick(Scheme plan) {
            clock += 1000 + plan.drift;
            if (clock < 1000 * plan.length) {
                return;
            }
            clock -= 1000 * plan.length;
            if (held > 0) {
                readOlder(plan);
            } else if (read > 0) {
                repeated++;
            }
        }

        private void readOlder(Scheme plan) {
            readStart = olderStart;
            readPlace = olderPlace;
            // Those in the store are the latest that came, without a gap.
            readNumber = came - held;
            read++;
            dropOlder();
            if (plan.isSignalPlace(readPlace)) {
                signalStart3 = signalStart2;
                signalStart2 = signalStart;
                signalStart = readStart;
                signals = Math.min(3, signals + 1);
            }
        }

        void copyFrom(Store other) {
            held = other.held;
            came = other.came;
            dropped = other.dropped;
            read = other.read;
            repeated = other.repeated;
            clock = other.clock;
            olderStart = other.olderStart;
            olderPlace = other.olderPlace;
            newerStart = other.newerStart;
            newerPlace = other.newerPlace;
            readStart = other.readStart;
            readPlace = other.readPlace;
            readNumber = other.readNumber;
            signals = other.signals;
            signalStart = other.signalStart;
            signalStart2 = other.signalStart2;
            signalStart3 = other.signalStart3;
        }
    }

    /** Hears the link. */
    private static final class Ear {
        private static final int BITS_OF_VALUE = 8;

        private final int[] values = new int[MOST_VALUES];
        int taken;
        int spoilt;
        /** How many bits of the value that is begun were heard, the 0 ahead of it too. */
        private int begun;
        private int partial;

        void begin() {
            taken = 0;
            spoilt = 0;
            forget();
        }

        void forget() {
            begun = 0;
            partial = 0;
        }

        void take(int bit) {
            if (begun == 0) {
                begun = bit == 0 ? 1 : 0;
            } else if (begun <= BITS_OF_VALUE) {
                partial = partial * 2 + bit;
                begun++;
            } else {
                if (bit == 1) {
                    keep(partial);
                } else {
                    spoilt++;
                }
                forget();
            }
        }

        private void keep(int value) {
            for (int i = MOST_VALUES - 1; i > 0; i--) {
                values[i] = values[i - 1];
            }
            values[0] = value;
            taken++;
        }

        int nth(int k) {
            return k >= 0 && k < taken && k < MOST_VALUES ? values[k] : NONE;
        }

        void copyFrom(Ear other) {
            System.arraycopy(other.values, 0, values, 0, MOST_VALUES);
            taken = other.taken;
            spoilt = other.spoilt;
            begun = other.begun;
            partial = other.partial;
        }
    }
}
