import java.util.NoSuchElementException;
import java.util.Random;

/** Runs of calls, drawn by fixed seeds, on the class and on the model: each answer is compared. */
public final class RandomRunsTest {
    private static final int[] EDGES = {
        -1, 0, 1, 2, 3, 8, 9, 10, 11, 17, 18, 24, 255, 256, 500, 501, 3999, 4000, 4001, -2, -1000,
        Integer.MAX_VALUE, Integer.MIN_VALUE, Integer.MAX_VALUE - 1, Integer.MIN_VALUE + 1};
    /** Calls of the object that askAll() makes, and that one step may make at most. */
    private static final int ALL = 45;
    private static final int MOST_OF_ONE = ALL + 15;

    private final Random random;
    private final Framer x = new Framer();
    private final Model m = new Model();
    private final StringBuilder log = new StringBuilder();
    private final boolean wild;
    /** Short frames with checks, a link and signals, much sent and heard, little damaged. */
    private final boolean rich;

    private RandomRunsTest(int seed) {
        random = new Random(seed);
        wild = seed % 4 == 0;
        rich = seed % 2 == 1;
    }

    private int below(int n) {
        return n < 1 ? 0 : random.nextInt(n);
    }

    private boolean one(int n) {
        return random.nextInt(n) == 0;
    }

    /** An index near what there is, or an edge. */
    private int near(int n) {
        if (one(wild ? 3 : 25)) {
            return EDGES[below(EDGES.length)];
        }
        return one(12) ? n + below(3) - 1 : below(n);
    }

    private void same(String call, long got, long want) {
        log.append(call).append('=').append(want).append(' ');
        if (got != want) {
            Check.due("run " + log, got, want);
        } else {
            Check.due(call, got, want);
        }
    }

    private void same(String call, boolean got, boolean want) {
        same(call, got ? 1 : 0, want ? 1 : 0);
    }

    private String richText() {
        String[] rows = {"01dc", "c01d", "d01", "d10c1", "0d1dc0", "01", "001d", "cd1c0", "dd01", "01d0c1d"};
        return "length " + (4 + below(3)) + ";roles " + rows[below(rows.length)] + ";width " + (1 + below(3))
            + ";least " + (2 + below(3)) + ";poly " + below(64) + ";stolen " + below(4) + ";"
            + (one(3) ? "" : (one(2) ? "lag " : "drift ") + below(51) + ";") + (one(2) ? "" : "wrong 1 1;");
    }

    private String text() {
        if (rich) {
            return richText();
        }
        StringBuilder t = new StringBuilder();
        int n = one(10) ? 0 : 1 + below(6);
        if (!one(5)) {
            t.append("length").append(one(3) ? " " : "  ").append(one(3) ? 4 + below(21) : 4 + below(5)).append(';');
        }
        if (!one(5)) {
            t.append("roles ").append(row()).append(one(2) ? ";" : " ;\n");
        }
        for (int i = 0; i < n; i++) {
            t.append(statement()).append(one(20) ? "" : ";");
        }
        if (one(wild ? 2 : 12) && t.length() > 0) {
            String bytes = "ab cdz0189;;\n\t:AZ`{/\u0080\u00ff";
            int at = below(t.length());
            if (one(2)) {
                t.setCharAt(at, bytes.charAt(below(bytes.length())));
            } else if (one(2)) {
                t.deleteCharAt(at);
            } else {
                t.insert(at, bytes.charAt(below(bytes.length())));
            }
        }
        return t.toString();
    }

    private String row() {
        StringBuilder r = new StringBuilder();
        int n = one(8) ? below(15) : 2 + below(one(3) ? 11 : 5);
        String signs = one(3) ? "01" : one(2) ? "0011cd" : one(2) ? "0011c" : "01ccd";
        if (!one(8)) {
            r.append("0").append(one(2) ? " " : "").append("1");
        }
        for (int i = r.length(); i < n; i++) {
            r.append(signs.charAt(below(signs.length()))).append(one(8) ? " " : "");
        }
        return r.toString();
    }

    private String statement() {
        int odd = below(40);
        String more = odd == 0 ? "0" : odd == 1 ? "7" : odd == 2 ? "x" : odd == 3 ? " 3" : "";
        switch (below(7)) {
            case 0: return "poly " + below(one(9) ? 70 : 64) + more;
            case 1: return "width " + (1 + below(one(9) ? 9 : 8)) + more;
            case 2: return "stolen " + below(one(2) ? 4 : 14) + more;
            case 3: return "least " + (2 + below(one(4) ? 24 : 5)) + more;
            case 4: return "wrong " + (1 + below(4)) + " " + (one(6) ? below(10) : 4 + below(5)) + more;
            case 5: return "drift " + below(one(9) ? 55 : 51) + more;
            default: return "lag " + below(one(9) ? 55 : 51) + more;
        }
    }

    private void tell() {
        String t = text();
        for (int i = 0; i < t.length(); i += 8) {
            long eight = Check.eight(t, i);
            same("key(" + eight + "L)", x.key(eight), m.key(eight));
        }
        same("scheme()", x.scheme(), m.scheme());
        same("fault(false)", x.fault(false), m.fault(false));
        same("fault(true)", x.fault(true), m.fault(true));
    }

    private void act() {
        int size = m.count(11);
        int heard = m.count(12);
        int i = near(size);
        if (!one(6) && i >= 0 && i < heard && heard < size) {
            i = heard + below(Math.min(size - heard, one(2) ? 60 : 4000));
        }
        int n = one(12) ? near(10) : 1 + below(6);
        boolean b = one(2);
        switch (below(14)) {
            case 0: case 1: {
                int v = one(8) ? near(256) : below(256);
                same("say(" + v + ")", x.say(v), m.say(v));
                break;
            }
            case 2: case 3: case 4: {
                int seed = random.nextInt();
                same("send(" + n + "," + seed + ")", x.send(n, seed), m.send(n, seed));
                break;
            }
            case 5: case 6:
                same("turn(" + i + ")", x.turn(i), m.turn(i));
                break;
            case 7:
                n = one(3) ? near(501) : 1 + below(9);
                same("lose(" + i + "," + n + ")", x.lose(i, n), m.lose(i, n));
                break;
            case 8:
                same("put(" + i + "," + b + ")", x.put(i, b), m.put(i, b));
                break;
            case 9: case 10: case 11: {
                int k = one(4) ? size - heard : one(10) ? near(4001) : 1 + below(Math.min(200, size - heard));
                same("hear(" + k + ")", x.hear(k), m.hear(k));
                break;
            }
            case 12:
                if (one(2)) {
                    same("undo()", x.undo(), m.undo());
                }
                break;
            default:
                if (one(3)) {
                    int k = one(8) ? near(4) : below(3);
                    if (one(2)) {
                        same("image(" + k + ")", x.image(k), m.image(k));
                    } else {
                        same("again(" + k + ")", x.again(k), m.again(k));
                    }
                }
        }
    }

    private void richAct() {
        int behind = m.count(11) - m.count(12);
        int seed = random.nextInt();
        int n = 1 + below(8);
        switch (below(10)) {
            case 0: same("say(" + n + ")", x.say(n), m.say(n)); break;
            case 1: n = below(256); same("say(" + n + ")", x.say(n), m.say(n)); break;
            case 2: case 3: same("send(" + n + "," + seed + ")", x.send(n, seed), m.send(n, seed)); break;
            case 4: case 5: case 6: {
                int h = one(2) ? behind : Math.min(behind, 1 + below(150));
                same("hear(" + h + ")", x.hear(h), m.hear(h));
                break;
            }
            case 7:
                for (int u = 1 + below(3); u > 0; u--) {
                    same("undo()", x.undo(), m.undo());
                }
                askAll();
                break;
            case 8: n = below(3); same("image(" + n + ")", x.image(n), m.image(n)); break;
            default:
                n = below(3);
                same("again(" + n + ")", x.again(n), m.again(n));
                askAll();
        }
    }

    private void askAll() {
        for (int w = 0; w <= 18; w++) {
            same("receiver(" + w + ")", x.receiver(w), m.receiver(w));
        }
        for (int w = 11; w <= 15; w++) {
            same("count(" + w + ")", x.count(w), m.count(w));
        }
        for (int w : new int[] {0, 1, 2, 10, 11}) {
            same("frame(" + w + ")", x.frame(w), m.frame(w));
        }
        for (int k = 0; k < 8; k++) {
            same("signal(" + k + ")", x.signal(k), m.signal(k));
            same("value(" + k + ")", x.value(k), m.value(k));
        }
    }

    private void ask() {
        int size = m.count(11);
        int i = near(size);
        int w = near(18);
        switch (below(18)) {
            case 0: w = near(17); same("count(" + w + ")", x.count(w), m.count(w)); break;
            case 1: i = near(12); same("role(" + i + ")", role(i), m.role(i)); break;
            case 2: same("bit(" + i + ")", x.bit(i), m.bit(i)); break;
            case 3: same("checks(" + i + ")", x.checks(i), m.checks(i)); break;
            case 4: i = near(m.receiver(1)); same("candidate(" + i + ")", x.candidate(i), m.candidate(i)); break;
            case 5: w = near(20); same("frame(" + w + ")", x.frame(w), m.frame(w)); break;
            case 6: i = near(m.count(9)); same("signal(" + i + ")", x.signal(i), m.signal(i)); break;
            case 7: i = near(8); same("value(" + i + ")", x.value(i), m.value(i)); break;
            case 8: {
                int n = one(9) ? near(9) : 1 + below(8);
                int seed = random.nextInt();
                same("ahead(" + n + "," + seed + "," + w + ")", x.ahead(n, seed, w), m.ahead(n, seed, w));
                break;
            }
            case 9: case 10: {
                int p = near(m.count(0) * m.count(1));
                same("struck(" + i + "," + p + ")", x.struck(i, p), m.struck(i, p));
                break;
            }
            case 11: same("locks(" + i + ")", x.locks(i), m.locks(i)); break;
            case 12: same("from(" + i + "," + w + ")", x.from(i, w), m.from(i, w)); break;
            case 13: case 14: {
                int n = one(2) ? near(size) : Math.min(size, below(60));
                same("fits(" + n + ",-1)", x.fits(n, -1), m.fits(n, -1));
                int k = near(m.fits(n, -1));
                same("fits(" + n + "," + k + ")", x.fits(n, k), m.fits(n, k));
                break;
            }
            case 15: i = near(size + 1); same("least(" + i + ")", x.least(i), m.least(i)); break;
            case 16: same("weak()", x.weak(), m.weak()); break;
            default: askAll();
        }
    }

    private int role(int i) {
        try {
            return x.role(i);
        } catch (NoSuchElementException e) {
            return -1;
        }
    }

    private void run(int calls) {
        for (int c = 0; c < calls && x.callsLeft() > MOST_OF_ONE + ALL && Check.wrong() == 0; c++) {
            if (c == 0 ? !one(6) : one(90)) {
                tell();
            } else if (rich && !one(4)) {
                richAct();
            } else if (one(3)) {
                act();
            } else {
                ask();
            }
        }
        askAll();
    }

    public static void main(String[] args) {
        int from = args.length > 0 ? Integer.parseInt(args[0]) : 0;
        int runs = args.length > 1 ? Integer.parseInt(args[1]) : 600;
        for (int seed = from; seed < from + runs && Check.wrong() == 0; seed++) {
            RandomRunsTest one = new RandomRunsTest(seed);
            one.run(120);
        }
        Check.end("RandomRunsTest");
    }
}
