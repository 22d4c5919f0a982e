/** Each sentence of term 2 and of promises 5 to 9, 14, 15 that names a boundary: who sends, and the LINE. */
public final class LineBoundsTest {
    private static final int NONE = Framer.NONE;
    private static final int MIN = Integer.MIN_VALUE;
    private static final int MAX = Integer.MAX_VALUE;
    private static final String SMALL = "length 4;roles 0 1;least 2;";
    /** One superframe of it has the ten bits of a value. */
    private static final String TEN = "length 4;roles 0dddddddddd1;";

    private LineBoundsTest() {
    }

    public static void main(String[] args) throws IllegalAccessException {
        Sentences.run(LineBoundsTest.class);
    }

    /** A line of 3960 bits, superframes of 40. */
    private static Framer nearlyFull() {
        Framer x = Check.made("length 20;roles 0 1;");
        for (int n = 0; n < 12; n++) {
            x.send(8, n);
        }
        Check.due("nearly full", x.send(3, 9), 3960);
        return x;
    }

    /** The ten bits of d of the n-th superframe. */
    private static String link(Framer x, int n) {
        StringBuilder b = new StringBuilder();
        for (int f = 1; f <= 10; f++) {
            b.append(x.bit(48 * n + 4 * f));
        }
        return b.toString();
    }

    private static void links(Framer x, String... due) {
        for (int n = 0; n < due.length; n++) {
            Keep.same("d of superframe " + n, link(x, n), due[n]);
        }
    }

    // ---- term 2

    @Says(at = "T2", value = "THE LINE has at most 4000 BITS, numbered from 0 on.")
    static void atMostFourThousand() {
        Framer x = nearlyFull();
        Check.due("to 4000", x.send(1, 1), 4000);
        Check.due("bit(3999)", x.bit(3999) >= 0, true);
        Check.due("bit(4000)", x.bit(4000), NONE);
        Check.due("send", x.send(1, 1), NONE);
        Check.due("put", x.put(4000, true), NONE);
        Check.due("the line", x.count(11), 4000);
    }

    @Says(at = "T2", value = "x becomes x * 1103515245 + 12345 (of 32 bits); it is x shifted right by 16 without sign,"
        + " modulo 2")
    static void drawnBits() {
        for (int seed : new int[] {0, 1, -1, 77, MAX, MIN, 1 << 16, 0x12345678, 0xFEDCBA98}) {
            Framer x = Check.made("length 4;roles 1 0;");
            x.send(3, seed);
            // Of 64 bits, taken modulo 2 to the 32nd: nothing wraps around here.
            long state = seed & 0xFFFFFFFFL;
            for (int i = 0; i < 24; i++) {
                long want = i % 8 == 0 ? 1 : 0;
                if (i % 4 != 0) {
                    state = (state * 1103515245L + 12345L) % 4294967296L;
                    want = state / 65536 % 2;
                }
                Check.due("seed " + seed + ", bit " + i, x.bit(i), want);
            }
        }
    }

    @Says(at = "T2", value = "SEND of n SUPERFRAMES by a SEED, x")
    static void oneSeedForAll() {
        Framer x = Check.made("length 24;roles 01;");
        x.send(2, 5);
        x.send(1, 5);
        int unlike = 0;
        for (int i = 0; i < 48; i++) {
            Check.due("the seed begins anew, bit " + i, x.bit(96 + i), x.bit(i));
            unlike += x.bit(48 + i) == x.bit(i) ? 0 : 1;
        }
        Check.due("the second superframe is drawn on", unlike > 0, true);
    }

    @Says(at = "T2", value = "BITS come behind the LINE, in order: of 0, 1 these; of all others of a FRAME, SIGNALS too,"
        + " DRAWN ones")
    static void signalsAreDrawnToo() {
        Framer x = Check.made("length 6;roles 0 1 1;width 5;");
        Framer y = Check.made("length 6;roles 0 1 1;width 5;stolen 1;");
        x.put(0, true);
        y.put(0, true);
        x.send(2, 31);
        y.send(2, 31);
        Check.due("behind what there is", x.bit(0), 1);
        int[] first = {0, 1, 1, 0, 1, 1};
        for (int f = 0; f < first.length; f++) {
            Check.due("the first of frame " + f, x.bit(1 + 6 * f), first[f]);
        }
        for (int i = 0; i < 37; i++) {
            Check.due("bit " + i, y.bit(i), x.bit(i));
        }
    }

    @Says(at = "T2", value = "of each VALUE that is to be SAID, one behind the other, 0, its 8 BITS, the highest first, 1")
    static void valuesOneBehindTheOther() {
        Framer x = Check.made(TEN);
        x.say(0);
        x.say(255);
        x.say(1);
        x.say(128);
        x.send(5, 3);
        links(x, "0000000001", "0111111111", "0000000011", "0100000001", "1111111111");
    }

    @Says(at = "T2", value = "as long as there is none 1")
    static void asLongAsThereIsNone() {
        Framer x = Check.made(TEN);
        x.send(1, 3);
        x.say(0);
        x.send(2, 3);
        links(x, "1111111111", "0000000001", "1111111111");
        Framer y = Check.made("length 4;roles 0 d 1;");
        y.send(1, 1);
        y.say(0x80);
        y.send(1, 1);
        y.say(0);
        y.send(8, 1);
        y.send(1, 1);
        // 1, then 0 10000000 1, and no gap ahead of what was said while it was sent.
        String due = "10100000001";
        for (int n = 0; n < due.length(); n++) {
            Check.due("d of " + n, y.bit(12 * n + 4), due.charAt(n) - '0');
        }
        y.send(1, 1);
        Check.due("the next value begins", y.bit(12 * 11 + 4), 0);
    }

    @Says(at = "T2", value = "of c the next of the CHECKS of the SUPERFRAME that was sent last")
    static void checksOfTheLast() {
        Framer x = Check.made("length 4;roles 0 c 1 c c;poly 5;");
        x.send(3, 20);
        for (int s = 1; s < 3; s++) {
            int checks = x.checks(20 * (s - 1));
            int told = x.bit(20 * s + 4) << 2 | x.bit(20 * s + 12) << 1 | x.bit(20 * s + 16);
            Check.due("c of " + s, told, checks);
        }
        int last = x.checks(40);
        Check.due("they are not 0", last != 0, true);
        x.turn(59);
        Check.due("turned over they are others", x.checks(40) != last, true);
        x.send(1, 4);
        Check.due("c of what was sent, though it is turned over", x.bit(64) << 2 | x.bit(72) << 1 | x.bit(76), last);
        x.undo();
        x.lose(0, 60);
        x.send(1, 4);
        Check.due("c of what was sent, though it is lost", x.bit(4) << 2 | x.bit(12) << 1 | x.bit(16), last);
    }

    @Says(at = "T2", value = "(0 each, if none was since the SCHEME was told)")
    static void checksAreZeroAtFirst() {
        String told = "length 4;roles 0 c 1 c;poly 3;";
        int others = 0;
        for (int seed = 0; seed < 8; seed++) {
            Framer x = Check.made(told);
            x.send(1, seed);
            others += x.checks(0) == 0 ? 0 : 1;
            Check.due("the first c", x.bit(4) + x.bit(12), 0);
            Check.type(x, told);
            x.scheme();
            x.send(1, seed);
            Check.due("the first c, told anew", x.bit(4) + x.bit(12), 0);
        }
        Check.due("checks that are not 0", others > 0, true);
    }

    @Says(at = "T2", value = "(0 each, if none was since the SCHEME was told)")
    static void aFaultTellsNoScheme() {
        int others = 0;
        for (int seed = 0; seed < 8; seed++) {
            Framer x = Check.made("length 4;roles 0 c 1 c;poly 3;");
            x.send(1, seed);
            Check.type(x, "poly 3");
            x.scheme();
            x.send(1, seed);
            others += x.checks(0) == 0 ? 0 : 1;
            Check.due("c behind a fault", x.bit(20) << 1 | x.bit(28), x.checks(0));
        }
        Check.due("checks that are not 0", others > 0, true);
    }

    @Says(at = "T2", value = "what is turned over, lost, put in must lie behind them")
    static void heardStays() {
        Framer x = Check.made(SMALL);
        Check.append(x, "0110 0110 0110");
        x.hear(6);
        for (int i = 0; i < 6; i++) {
            Check.due("turn " + i, x.turn(i), false);
            Check.due("lose " + i, x.lose(i, 1), NONE);
            Check.due("put " + i, x.put(i, true), NONE);
        }
        Keep.same("the line", Check.line(x), "011001100110");
        Check.due("turn behind", x.turn(6), true);
        Check.due("put behind", x.put(6, true), 13);
        Check.due("lose behind", x.lose(6, 2), 11);
        Keep.same("the line", Check.line(x), "01100100110");
    }

    // ---- promise 5

    @Says(at = "P5", value = "A VALUE, 0 to 255, is to be SAID")
    static void valuesToBeSaid() {
        Framer x = Check.made(TEN);
        for (int v : new int[] {-1, 256, MIN, MAX, 511, -255}) {
            Check.due("say " + v, x.say(v), NONE);
        }
        Check.due("no act", x.count(13), 0);
        Check.due("none to say", x.count(15), 0);
        Check.due("0", x.say(0), 1);
        Check.due("255", x.say(255), 2);
        Check.due("acts", x.count(13), 2);
    }

    @Says(at = "P5", value = "how many there are that were not sent to their end")
    static void notSentToTheirEnd() {
        Framer x = Check.made("length 4;roles 0 d 1;");
        x.say(6);
        x.say(7);
        Check.due("three", x.say(8), 3);
        x.send(8, 1);
        x.send(1, 1);
        Check.due("nine of ten bits were sent", x.count(15), 3);
        x.send(1, 1);
        Check.due("to its end", x.count(15), 2);
        Check.due("one more", x.say(9), 3);
    }

    @Says(at = "P5", value = "NONE: another one, there are 8.")
    static void thereAreEight() {
        Framer x = Check.made(TEN);
        for (int n = 1; n <= 8; n++) {
            Check.due("say " + n, x.say(n), n);
        }
        Check.due("a ninth", x.say(9), NONE);
        Check.due("there are", x.count(15), 8);
        Check.due("acts", x.count(13), 6);
        x.send(1, 1);
        Check.due("one was sent", x.say(9), 8);
        Check.due("a tenth", x.say(10), NONE);
        x.send(8, 1);
        Check.due("all were sent", x.count(15), 0);
        Keep.same("the eighth", link(x, 7), "0000010001");
        Keep.same("the ninth", link(x, 8), "0000010011");
    }

    // ---- promise 6

    @Says(at = "P6", value = "SEND of n SUPERFRAMES, 1 to 8: how many BITS the LINE has.")
    static void sendOneToEight() {
        Framer x = Check.made(SMALL);
        for (int n : new int[] {0, -1, 9, MIN, MAX, 1 << 29}) {
            Check.due("send " + n, x.send(n, 1), NONE);
        }
        Check.due("nothing was sent", x.count(11) + x.count(13), 0);
        Check.due("send 1", x.send(1, 1), 8);
        Check.due("send 8", x.send(8, 1), 72);
    }

    @Says(at = "P6", value = "NONE: another n, there would be more than 4000.")
    static void sendNoMoreThanFourThousand() {
        Framer x = nearlyFull();
        Check.due("two", x.send(2, 1), NONE);
        x.put(0, true);
        int acts = x.count(13);
        Check.due("one to 4001", x.send(1, 1), NONE);
        Check.due("no act", x.count(13), acts);
        Check.due("nothing was sent", x.count(11), 3961);
        x.undo();
        Check.due("one to 4000", x.send(1, 1), 4000);
        Check.due("one more", x.send(1, 1), NONE);
    }

    @Says(at = "P6", value = "NONE: another n, there would be more than 4000.")
    static void aRefusedSendLeavesTheLink() {
        Framer x = Check.made("length 20;roles 0 d 1 d 0 d 1 d 0 d;");
        for (int n = 0; n < 2; n++) {
            x.send(8, 1);
        }
        x.say(5);
        x.send(3, 1);
        Check.due("3800", x.count(11), 3800);
        Check.due("said", x.count(15), 0);
        x.say(0);
        Check.due("two more", x.send(2, 1), NONE);
        Check.due("still to be said", x.count(15), 1);
        x.send(1, 1);
        Check.due("the first of five d", x.bit(3820), 0);
        Check.due("half of it", x.count(15), 1);
    }

    // ---- promise 7

    @Says(at = "P7", value = "A BIT is turned over: true. false: there is none such, it is HEARD.")
    static void turn() {
        Framer x = Check.made(SMALL);
        Check.due("of an empty line", x.turn(0), false);
        Check.append(x, "0101");
        x.hear(1);
        int acts = x.count(13);
        for (int i : new int[] {-1, 0, 4, 5, MIN, MAX}) {
            Check.due("turn " + i, x.turn(i), false);
        }
        Check.due("no act", x.count(13), acts);
        Keep.same("as it was", Check.line(x), "0101");
        Check.due("the first that is not heard", x.turn(1), true);
        Check.due("the last", x.turn(3), true);
        Keep.same("turned", Check.line(x), "0000");
        x.turn(3);
        Keep.same("turned again", Check.line(x), "0001");
        x.hear(3);
        Check.due("all are heard", x.turn(3), false);
    }

    // ---- promise 8

    @Says(at = "P8", value = "n BITS, 1 to 500, from one on are lost: how many the LINE has.")
    static void loseOneToFiveHundred() {
        Framer x = Check.made("length 20;roles 0 1 1;");
        x.send(8, 1);
        x.send(2, 1);
        int ahead = x.bit(99);
        int behind = x.bit(599);
        for (int n : new int[] {0, -1, 501, 600, MIN, MAX}) {
            Check.due("lose " + n, x.lose(0, n), NONE);
        }
        Check.due("nothing is lost", x.count(11), 600);
        Check.due("no act", x.count(13), 2);
        Check.due("499", x.lose(100, 499), 101);
        Check.due("ahead of them", x.bit(99), ahead);
        Check.due("behind them", x.bit(100), behind);
        x.undo();
        Check.due("500", x.lose(100, 500), 100);
        Check.due("one", x.lose(0, 1), 99);
        x.undo();
        Check.due("ahead of them still", x.bit(99), ahead);
    }

    @Says(at = "P8", value = "NONE: another n, there are not so many from it on, it is HEARD.")
    static void loseNotSoMany() {
        Framer x = Check.made(SMALL);
        Check.due("of an empty line", x.lose(0, 1), NONE);
        Check.append(x, "0110 1001 11");
        x.hear(3);
        Check.due("heard", x.lose(2, 1), NONE);
        Check.due("heard, to the end", x.lose(0, 10), NONE);
        Check.due("below all", x.lose(-1, 5), NONE);
        Check.due("one too many", x.lose(3, 8), NONE);
        Check.due("behind all", x.lose(10, 1), NONE);
        Check.due("the lowest", x.lose(MIN, 500), NONE);
        Check.due("the highest", x.lose(MAX, 500), NONE);
        Check.due("nearly the highest", x.lose(MAX - 1, 1), NONE);
        Keep.same("nothing is lost", Check.line(x), "0110100111");
        Check.due("the last", x.lose(9, 1), 9);
        Check.due("all that is not heard", x.lose(3, 6), 3);
        Check.due("there are none", x.lose(3, 1), NONE);
        Keep.same("what is heard", Check.line(x), "011");
    }

    // ---- promise 9

    @Says(at = "P9", value = "A BIT comes ahead of another one (or behind all): how many the LINE has.")
    static void putAheadOrBehind() {
        Framer x = Check.made(SMALL);
        Check.due("into an empty line", x.put(0, true), 1);
        Check.due("behind all", x.put(1, true), 2);
        Check.due("ahead of all", x.put(0, false), 3);
        Check.due("between", x.put(2, false), 4);
        Keep.same("put", Check.line(x), "0101");
        x.hear(4);
        Check.due("behind all that is heard", x.put(4, false), 5);
        Keep.same("put", Check.line(x), "01010");
    }

    @Says(at = "P9", value = "NONE: there is no such place, what is there is HEARD, there are 4000.")
    static void putRefused() {
        Framer x = Check.made(SMALL);
        Check.due("behind the end of an empty line", x.put(1, true), NONE);
        Check.append(x, "1100");
        x.hear(2);
        int acts = x.count(13);
        for (int i : new int[] {-1, 0, 1, 5, MIN, MAX}) {
            Check.due("put " + i, x.put(i, true), NONE);
        }
        Check.due("no act", x.count(13), acts);
        Keep.same("as it was", Check.line(x), "1100");
        Check.due("ahead of the first that is not heard", x.put(2, true), 5);
        Framer y = nearlyFull();
        for (int n = 3961; n <= 4000; n++) {
            Check.due("put to " + n, y.put(0, true), n);
        }
        Check.due("there are 4000", y.put(0, true), NONE);
        Check.due("behind all", y.put(4000, true), NONE);
        y.lose(7, 1);
        Check.due("there is room", y.put(7, true), 4000);
    }

    // ---- promise 14

    @Says(at = "P14", value = "The i-th BIT of the LINE: 1, 0. NONE: there is none such.")
    static void bit() {
        Framer x = Check.made(SMALL);
        for (int i : new int[] {0, 1, -1, MIN, MAX}) {
            Check.due("bit " + i + " of an empty line", x.bit(i), NONE);
        }
        Check.append(x, "101");
        int[] due = {1, 0, 1, NONE};
        for (int i = 0; i < due.length; i++) {
            Check.due("bit " + i, x.bit(i), due[i]);
        }
        Check.due("bit -1", x.bit(-1), NONE);
        Check.due("bit MAX", x.bit(MAX), NONE);
        Check.due("bit MIN", x.bit(MIN), NONE);
        x.lose(2, 1);
        Check.due("it is lost", x.bit(2), NONE);
    }

    // ---- promise 15

    @Says(at = "P15", value = "as many as a SUPERFRAME has, the first of them being its first one")
    static void checksFromItsFirstBitOn() {
        Framer x = Check.made("length 4;roles 0 1 c c;poly 1;");
        Check.append(x, "0000 0000 0000 0000 0000");
        // The bits taken for 1 are those 8 and 12 behind i, wherever i is.
        for (int i = 0; i <= 4; i++) {
            Check.due("checks " + i, x.checks(i), 0);
        }
        x.turn(12);
        Check.due("a c of it", x.checks(0), 0);
        Check.due("no c of it", x.checks(1) != 0, true);
        Check.due("a c of it from 4 on", x.checks(4), 0);
        x.turn(15);
        Check.due("the last of it", x.checks(0), 1);
        x.turn(16);
        Check.due("behind its last", x.checks(0), 1);
    }

    @Says(at = "P15", value = "as a number, the top one highest")
    static void checksTopOneHighest() {
        Framer x = Check.made("length 4;roles 0 1 c c c;poly 1;");
        Check.append(x, "0000 0000 0000 0000 0000");
        int before = x.checks(0);
        int[] unlike = {1, 2, 4};
        for (int b = 0; b < 3; b++) {
            x.turn(19 - b);
            Check.due("a one " + b + " ahead of the last goes up", x.checks(0) ^ before, unlike[b]);
            x.undo();
        }
    }

    @Says(at = "P15", value = "NONE: there are not so many.")
    static void checksNotSoMany() {
        Framer x = Check.made(SMALL);
        Check.due("of an empty line", x.checks(0), NONE);
        Check.append(x, "1111 111");
        Check.due("one too few", x.checks(0), NONE);
        Check.append(x, "1");
        Check.due("no c: 0", x.checks(0), 0);
        for (int i : new int[] {1, -1, 8, MIN, MAX, MAX - 7}) {
            Check.due("checks " + i, x.checks(i), NONE);
        }
        Check.append(x, "0");
        Check.due("checks 1", x.checks(1), 0);
        Check.due("checks 2", x.checks(2), NONE);
    }
}
