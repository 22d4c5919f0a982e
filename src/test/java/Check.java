/** Counts answers that are not due, and packs texts for key(). */
final class Check {
    private static int wrong = 0;
    private static int asked = 0;

    private Check() {
    }

    static void due(String call, long got, long want) {
        asked++;
        if (got != want) {
            wrong++;
            if (wrong <= 40) {
                System.out.println(call + " answered " + got + ", due is " + want);
            }
        }
    }

    static void due(String call, boolean got, boolean want) {
        due(call, got ? 1L : 0L, want ? 1L : 0L);
    }

    static int wrong() {
        return wrong;
    }

    static int asked() {
        return asked;
    }

    static void end(String name) {
        System.out.println(name + ": " + asked + " answers, " + wrong + " not as due");
        if (wrong != 0) {
            System.exit(1);
        }
    }

    /** The eight bytes of a text from i on, zeros where it has ended. */
    static long eight(String text, int i) {
        long eight = 0;
        for (int b = 0; b < 8; b++) {
            int sign = i + b < text.length() ? text.charAt(i + b) & 255 : 0;
            eight = eight << 8 | sign;
        }
        return eight;
    }

    static void type(Framer x, String text) {
        for (int i = 0; i < text.length(); i += 8) {
            x.key(eight(text, i));
        }
    }

    /** A new object with a scheme. */
    static Framer made(String text) {
        Framer x = new Framer();
        type(x, text);
        if (x.scheme() == TrunkFramer.NONE) {
            due("scheme of " + text, -1, 0);
        }
        return x;
    }

    /** Bits come behind the line; other signs than 0 and 1 part them for the eye alone. */
    static void append(Framer x, String bits) {
        int end = x.count(11);
        for (int i = 0; i < bits.length(); i++) {
            if (bits.charAt(i) == '0' || bits.charAt(i) == '1') {
                end = x.put(end, bits.charAt(i) == '1');
            }
        }
    }

    /** Reads a text that has no fault. */
    static void can(String text, int what, int count) {
        fault(text, 0, Framer.NONE);
        Framer x = made(text);
        due("count(" + what + ") by " + text, x.count(what), count);
    }

    /** Reads a text that has this fault, or none, which is 0. */
    static void fault(String text, int fault, int place) {
        Framer x = new Framer();
        type(x, text);
        due("scheme of " + text + " is NONE", x.scheme() == Framer.NONE, fault != 0);
        due("fault of " + text, x.fault(false), fault);
        due("its place in " + text, x.fault(true), place);
    }

    /** The receiver's answers from what 0 on. */
    static void receiver(String where, Framer x, int... want) {
        for (int w = 0; w < want.length; w++) {
            due(where + ": receiver(" + w + ")", x.receiver(w), want[w]);
        }
    }

    static String line(Framer x) {
        StringBuilder b = new StringBuilder();
        for (int i = 0; i < x.count(11); i++) {
            b.append(x.bit(i));
        }
        return b.toString();
    }
}
