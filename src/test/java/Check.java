/** Counts answers that are not due, and packs texts for key(). */
final class Check {
    private static int wrong = 0;
    private static int asked = 0;

    private Check() {
    }

    static void due(String call, long got, long want) {
        asked++;
        if (got != want) {
            wrong++;
            if (wrong <= 40) {
                System.out.println(call + " answered " + got + ", due is " + want);
            }
        }
    }

    static void due(String call, boolean got, boolean want) {
        due(call, got ? 1L : 0L, want ? 1L : 0L);
    }

    static int wrong() {
        return wrong;
    }

    static void end(String name) {
        System.out.println(name + ": " + asked + " answers, " + wrong + " not as due");
        if (wrong != 0) {
            System.exit(1);
        }
    }

    /** The eight bytes of a text from i on, zeros where it has ended. */
    static long eight(String text, int i) {
        long eight = 0;
        for (int b = 0; b < 8; b++) {
            int sign = i + b < text.length() ? text.charAt(i + b) & 255 : 0;
            eight = eight << 8 | sign;
        }
        return eight;
    }

    static void type(TrunkFramer x, String text) {
        for (int i = 0; i < text.length(); i += 8) {
            x.key(eight(text, i));
        }
    }

    /** A new object with a scheme. */
    static TrunkFramer made(String text) {
        TrunkFramer x = new TrunkFramer();
        type(x, text);
        if (x.scheme() == TrunkFramer.NONE) {
            due("scheme of " + text, -1, 0);
        }
        return x;
    }

    /** Bits come behind the line; other signs than 0 and 1 part them for the eye alone. */
    static void append(TrunkFramer x, String bits) {
        for (int i = 0; i < bits.length(); i++) {
            if (bits.charAt(i) == '0' || bits.charAt(i) == '1') {
                x.put(x.count(11), bits.charAt(i) == '1');
            }
        }
    }

    static String line(TrunkFramer x) {
        StringBuilder b = new StringBuilder();
        for (int i = 0; i < x.count(11); i++) {
            b.append(x.bit(i));
        }
        return b.toString();
    }
}
