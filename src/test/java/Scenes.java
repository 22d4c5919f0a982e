/** Lines on which much happens, none of them heard yet. */
final class Scenes {
    /** Bits that leave one position alone behind their last one. */
    static final String SMALL = "length 4;roles 0 1;least 2;";
    static final String SMALL_BITS = "0000 1000";
    static final String CHECKED = "length 4;roles 0 1 c;poly 1;least 2;";
    /** Its checks are 0, whatever its c is: an even number of ones, that of c taken for one. */
    static final String CHECKED_BITS = "0000 1000 0000";
    /** One superframe of 48 has the ten bits of a value. */
    static final String TEN = "length 4;roles 0dddddddddd1;least 2;width 3;stolen 5;";
    static final String TEN_BITS = "0000 0000000000 0000000000 0000000000 0000000000 1000";

    private Scenes() {
    }

    /** The other clock is slow: frame 31 is dropped behind 144 of 200 bits. */
    static Framer slow() {
        Framer x = Check.made(SMALL + "lag 50;width 3;stolen 1;");
        Check.append(x, SMALL_BITS);
        for (int n = 0; n < 3; n++) {
            x.send(8, n);
        }
        return x;
    }

    /** The other clock is fast: behind 23, 42 and more of 200 bits a frame is read again. */
    static Framer fast() {
        Framer x = Check.made(SMALL + "drift 50;width 2;stolen 2;");
        Check.append(x, SMALL_BITS);
        for (int n = 0; n < 3; n++) {
            x.send(8, n);
        }
        return x;
    }

    /** Locked behind 48 bits; then a superframe for each value. */
    static Framer ten(int... values) {
        Framer x = Check.made(TEN);
        Check.append(x, TEN_BITS);
        for (int value : values) {
            x.say(value);
        }
        x.send(Math.max(1, values.length), 77);
        return x;
    }

    /** Locked behind 36 bits, its checks are wrong behind 60, lost by the next one, and a mimic behind 108. */
    static Framer checked() {
        Framer x = Check.made(CHECKED + "wrong 1 1;");
        String bad = "0000 1000 1000";
        Check.append(x, CHECKED_BITS + CHECKED_BITS + CHECKED_BITS + CHECKED_BITS + bad);
        Check.append(x, "1000 1000 0000" + CHECKED_BITS + CHECKED_BITS + bad + bad + CHECKED_BITS);
        return x;
    }

    /** What is told of the receiver, of the frame read last, signals and values. */
    static String told(Framer x) {
        StringBuilder b = new StringBuilder();
        for (int w = 0; w < 18; w++) {
            b.append(x.receiver(w)).append(' ');
        }
        for (int w : new int[] {0, 1, 10}) {
            b.append(x.frame(w)).append(' ');
        }
        for (int k = 0; k < 3; k++) {
            b.append(x.value(k)).append(' ');
        }
        return b.append(x.signal(0)).append(' ').append(x.candidate(0)).toString();
    }
}
