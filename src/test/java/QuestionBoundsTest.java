import java.util.NoSuchElementException;

/** Each sentence of promises 12, 13 and 21 to 27 that names a boundary: counts, ROLES, what would be. */
public final class QuestionBoundsTest {
    private static final int NONE = Framer.NONE;
    private static final int MIN = Integer.MIN_VALUE;
    private static final int MAX = Integer.MAX_VALUE;
    private static final String SMALL = Scenes.SMALL;
    private static final String SMALL_BITS = Scenes.SMALL_BITS;
    private static final String CHECKED = Scenes.CHECKED;
    private static final String CHECKED_BITS = Scenes.CHECKED_BITS;
    /** Bits of role 0 or 1 at 0 and 96 of 288. */
    private static final String WIDE = "length 24;roles 0ddd1ddddddd;least 2;";
    /** Where the tenth superframe of it starts. */
    private static final int START = 288 * 9;

    private QuestionBoundsTest() {
    }

    public static void main(String[] args) throws IllegalAccessException {
        Sentences.run(QuestionBoundsTest.class);
    }

    private static Framer line(String told, String bits) {
        Framer x = Check.made(told);
        Check.append(x, bits);
        return x;
    }

    private static Framer full() {
        Framer x = Check.made("length 20;roles 0 1;");
        for (int n = 0; n < 12; n++) {
            x.send(8, n);
        }
        Check.due("a full line", x.send(4, 1), 4000);
        return x;
    }

    // ---- promise 12

    @Says(at = "P12", value = "-1000 for another what.")
    static void countOfAnotherWhat() {
        Framer x = new Framer();
        for (int what : new int[] {-1, 16, 17, NONE, -1000, MIN, MAX}) {
            Check.due("count " + what, x.count(what), -1000);
        }
        Check.due("count 15", x.count(15), 0);
    }

    @Says(at = "P12", value = "11: BITS on the LINE, 12: HEARD, 13: ACTS that can be UNDONE, 14: bytes of THE TEXT, 15: VALUES"
        + " to be SAID that were not sent to their end")
    static void countsGoOn() {
        Framer x = Check.made("length 4;roles 0 d 1;");
        x.say(1);
        x.send(2, 1);
        x.hear(5);
        x.key(Check.eight("abc", 0));
        int[] due = {24, 5, 3, 3, 1};
        for (int i = 0; i < due.length; i++) {
            Check.due("count " + (11 + i), x.count(11 + i), due[i]);
        }
        x.send(8, 1);
        x.undo();
        x.undo();
        Check.due("bits", x.count(11), 24);
        Check.due("heard", x.count(12), 0);
        Check.due("acts", x.count(13), 2);
    }

    // ---- promise 13

    @Says(at = "P13", value = "The ROLE of a FRAME of a SUPERFRAME: 0, 1, 2 c, 3 d. NoSuchElementException: there is none"
        + " such.")
    static void roleOfNone() {
        Framer x = Check.made("roles c0d1;");
        int[] roles = {2, 0, 3, 1};
        for (int f = 0; f < roles.length; f++) {
            Check.due("role " + f, x.role(f), roles[f]);
        }
        for (int f : new int[] {-1, 4, 5, 11, 12, MIN, MAX}) {
            boolean thrown = false;
            try {
                x.role(f);
            } catch (NoSuchElementException e) {
                thrown = e.getClass() == NoSuchElementException.class;
            }
            Check.due("role " + f + " throws", thrown, true);
        }
        Check.due("nothing changed", x.role(3), 1);
        Check.due("the last of twelve", Check.made("roles 0 1 dddddddddc;").role(11), 2);
    }

    // ---- promise 21

    @Says(at = "P21", value = "SEND of n SUPERFRAMES, 1 to 8, by a SEED, and the RECEIVER hears all that there is then")
    static void aheadIsAsIfItWereDone() {
        Framer x = line("length 4;roles 0 1 d;least 2;width 1;", "0000 1000 1000");
        x.say(3);
        x.say(4);
        x.send(1, 2);
        x.hear(5);
        int[] of = {1, 8};
        for (int n : of) {
            x.image(0);
            int[] got = new int[18];
            for (int w = 0; w < 18; w++) {
                got[w] = x.ahead(n, 44, w);
            }
            x.send(n, 44);
            x.hear(x.count(11) - 5);
            for (int w = 0; w < 18; w++) {
                Check.due("ahead(" + n + ", 44, " + w + ")", got[w], x.receiver(w));
            }
            Check.due("locked", got[0], 2);
            x.again(0);
        }
    }

    @Says(at = "P21", value = "(nothing stays; more than 4000 BITS there may be then)")
    static void aheadOfAFullLine() {
        Framer x = full();
        x.hear(3990);
        int frames = x.receiver(10);
        Check.due("locked", x.receiver(0), 2);
        Check.due("one", x.ahead(1, 3, 10), frames + 3);
        Check.due("eight", x.ahead(8, 3, 10), frames + 17);
        Check.due("the line", x.count(11), 4000);
        Check.due("heard", x.count(12), 3990);
        Check.due("frames", x.receiver(10), frames);
        Framer y = Check.made("length 24;roles 0 1 0 1 0 1 0 1 0 1 0 1;drift 1;");
        for (int n = 0; n < 13; n++) {
            y.send(1, n);
        }
        // 13 and 8 superframes of 288: 6048 bits of 1001, which is 252 * 24000 and 6048.
        Check.due("all of the most bits are heard", y.ahead(8, 5, 15), 6048);
        Check.due("the line", y.count(11), 3744);
    }

    @Says(at = "P21", value = "(nothing stays;")
    static void aheadLeavesNothing() {
        Framer x = line("length 4;roles 0 c d 1;poly 1;least 2;", "0000 0000 1000 1000");
        x.say(9);
        x.send(2, 5);
        x.hear(20);
        String before = Keep.state(x);
        int acts = x.count(13);
        int first = x.ahead(8, 7, 2);
        Keep.same("as before", Keep.state(x), before);
        Check.due("acts", x.count(13), acts);
        Check.due("the same again", x.ahead(8, 7, 2), first);
        x.image(0);
        x.send(1, 1);
        int c = x.bit(48 + 4);
        x.again(0);
        x.ahead(3, 1, 0);
        x.send(1, 1);
        Check.due("the checks of the last", x.bit(48 + 4), c);
        Check.due("what is to be said", x.count(15), 1);
    }

    @Says(at = "P21", value = "NONE: another n, another what.")
    static void aheadRefused() {
        Framer x = line(SMALL, SMALL_BITS);
        for (int n : new int[] {0, 9, -1, MIN, MAX}) {
            Check.due("ahead of " + n, x.ahead(n, 1, 4), NONE);
        }
        for (int what : new int[] {-1, 18, MIN, MAX}) {
            Check.due("ahead, what " + what, x.ahead(1, 1, what), NONE);
        }
        Check.due("1", x.ahead(1, 1, 4), 1);
        Check.due("8", x.ahead(8, 1, 4), 1);
        Check.due("what 17", x.ahead(1, 1, 17), 0);
    }

    // ---- promise 22

    @Says(at = "P22", value = "The first BIT of the LINE, from BIT i on, by which BIT i has not the position p in a SUPERFRAME.")
    static void theFirstThatStrikes() {
        Framer x = line(SMALL, SMALL_BITS + "1000");
        int[] first = {8, 3, 2, 1, 0, 7, 6, 5};
        for (int p = 0; p < 8; p++) {
            Check.due("struck(0, " + p + ")", x.struck(0, p), first[p]);
        }
        Check.due("bit i itself", x.struck(4, 0), 4);
        Check.due("the bit ahead of i is the other one", x.struck(4, 0), 4);
        Check.due("from i on, not ahead of it", x.struck(5, 1), NONE);
        Check.due("the second behind i", x.struck(1, 1), 8);
        Check.due("the last bit", x.struck(11, 4), 11);
        Framer y = line("length 4;roles 0 c d 1;", "0111 1111 1111 0");
        Check.due("c and d strike none", y.struck(0, 0), 12);
        Framer z = line("length 4;roles d 0 1;", "1000 0000 1000 0000");
        Check.due("not by d, it being the first role", z.struck(0, 0), NONE);
    }

    @Says(at = "P22", value = "NONE: there is none such, no such BIT, position.")
    static void nothingStrikes() {
        Framer x = line(SMALL, SMALL_BITS);
        Check.due("none such", x.struck(0, 0), NONE);
        Check.due("none such from the last", x.struck(7, 7), NONE);
        Check.due("the position that is the next one's", x.struck(7, 1), NONE);
        for (int i : new int[] {-1, 8, 9, MIN, MAX}) {
            Check.due("struck(" + i + ", 4)", x.struck(i, 4), NONE);
        }
        for (int p : new int[] {-1, 8, 12, MIN, MAX}) {
            Check.due("struck(0, " + p + ")", x.struck(0, p), NONE);
        }
        Check.due("the last position", x.struck(0, 7), 5);
        Check.due("a position behind the last, a one", x.struck(4, 8), NONE);
        Check.due("a bit behind the last", x.struck(8, 4), NONE);
        Check.due("an empty line", Check.made(SMALL).struck(0, 4), NONE);
    }

    // ---- promise 23

    @Says(at = "P23", value = "A RECEIVER as at first hears the LINE from BIT i on: how many BITS till it is LOCKED first.")
    static void howManyTillItIsLocked() {
        Framer x = line(SMALL + "wrong 1 1;", SMALL_BITS + "1" + SMALL_BITS + "1" + "0000 1000 00");
        Check.due("from 0", x.locks(0), 8);
        Check.due("from 9", x.locks(9), 8);
        x.hear(12);
        Check.due("whatever was heard", x.locks(0), 8);
        Check.due("behind what was heard", x.locks(18), 8);
        Framer y = line(CHECKED, CHECKED_BITS + CHECKED_BITS + CHECKED_BITS);
        Check.due("it verifies first", y.locks(0), 36);
        Check.due("one bit later", y.locks(1), NONE);
    }

    @Says(at = "P23", value = "NONE: never, there is no such BIT.")
    static void itIsNeverLocked() {
        Framer x = line(SMALL, "0000 100");
        Check.due("one bit is missing", x.locks(0), NONE);
        Check.append(x, "0");
        Check.due("by the last bit", x.locks(0), 8);
        for (int i : new int[] {1, 7, 8, 9, -1, MIN, MAX}) {
            Check.due("locks " + i, x.locks(i), NONE);
        }
        Check.due("an empty line", Check.made(SMALL).locks(0), NONE);
    }

    // ---- promise 24

    @Says(at = "P24", value = "Of that RECEIVER, to the end of the LINE: what as receiver().")
    static void toTheEndOfTheLine() {
        Framer x = line(SMALL, SMALL_BITS + SMALL_BITS + "1000 100");
        x.hear(3);
        int[] due = {2, 1, 1, 0, 1, 0, 7, 15, 1, 0, 3, 0, 3, 0, 0, 3000, 0, 0};
        for (int w = 0; w < due.length; w++) {
            Check.due("from(0, " + w + ")", x.from(0, w), due[w]);
        }
        Check.due("from the last bit", x.from(22, 7), 1);
        Check.due("it strikes one", x.from(22, 1), 7);
        Check.due("the receiver itself", x.receiver(7), 3);
    }

    @Says(at = "P24", value = "NONE: there is no such BIT, another what.")
    static void fromRefused() {
        Framer x = line(SMALL, SMALL_BITS);
        for (int i : new int[] {-1, 8, 9, MIN, MAX}) {
            Check.due("from " + i, x.from(i, 2), NONE);
        }
        for (int what : new int[] {-1, 18, MIN, MAX}) {
            Check.due("from, what " + what, x.from(0, what), NONE);
        }
        Check.due("the last of both", x.from(7, 17), 0);
        Check.due("an empty line", Check.made(SMALL).from(0, 2), NONE);
    }

    // ---- promise 25

    @Says(at = "P25", value = "Positions that BIT 0 of the LINE could have, none of the first n BITS (0 to 4000) of it being"
        + " the other one by them")
    static void positionsThatFit() {
        Framer x = line(SMALL, SMALL_BITS + "1");
        int[] left = {8, 7, 6, 5, 4, 4, 3, 2, 1, 0};
        for (int n = 0; n < left.length; n++) {
            Check.due("fits(" + n + ", NONE)", x.fits(n, NONE), left[n]);
        }
        x.hear(9);
        Check.due("whatever was heard", x.fits(8, 0), 0);
        Framer y = full();
        Check.due("4000", y.fits(4000, NONE), 1);
        Check.due("4001", y.fits(4001, NONE), NONE);
        Check.due("0", y.fits(0, NONE), 40);
    }

    @Says(at = "P25", value = "how many (k NONE), or the k-th, rising. NONE: not so many, there are not so many BITS.")
    static void theKthThatFits() {
        Framer x = line(SMALL, "0000 1");
        int[] left = {0, 5, 6, 7, NONE, NONE};
        for (int k = 0; k < left.length; k++) {
            Check.due("fits(4, " + k + ")", x.fits(4, k), left[k]);
        }
        Check.due("all: the last", x.fits(0, 7), 7);
        Check.due("all: not so many", x.fits(0, 8), NONE);
        for (int k : new int[] {-2, MIN, MAX}) {
            Check.due("fits(4, " + k + ")", x.fits(4, k), NONE);
        }
        for (int n : new int[] {6, -1, MIN, MAX}) {
            Check.due("fits(" + n + ", NONE)", x.fits(n, NONE), NONE);
            Check.due("fits(" + n + ", 0)", x.fits(n, 0), NONE);
        }
        Framer none = line(SMALL, "1111 1111");
        Check.due("none fits", none.fits(8, NONE), 0);
        Check.due("the 0th of none", none.fits(8, 0), NONE);
        Check.due("an empty line", Check.made(SMALL).fits(0, NONE), 8);
        Check.due("a bit of an empty line", Check.made(SMALL).fits(1, NONE), NONE);
    }

    // ---- promise 26

    @Says(at = "P26", value = "how many must be heard, from BIT 0 on, till one position alone fits (0 to n).")
    static void tillOneAloneFits() {
        Framer x = line(SMALL, SMALL_BITS + "1 000");
        Check.due("by all n", x.least(8), 8);
        Check.due("by fewer than n", x.least(12), 8);
        Check.due("one fits no more, but did", x.fits(12, NONE), 0);
        x.hear(5);
        Check.due("from bit 0 on, whatever was heard", x.least(12), 8);
    }

    @Says(at = "P26", value = "NONE: never by these, there are not so many.")
    static void neverOneAlone() {
        Framer x = line(SMALL, SMALL_BITS);
        for (int n : new int[] {0, 1, 7, 9, -1, MIN, MAX}) {
            Check.due("least " + n, x.least(n), NONE);
        }
        Check.due("an empty line", Check.made(SMALL).least(0), NONE);
        Framer two = line("length 4;roles 0 0;", "0111 0111 1");
        Check.due("two", two.fits(8, NONE), 2);
        Check.due("none at once", two.fits(9, NONE), 0);
        Check.due("never one", two.least(9), NONE);
    }

    // ---- promise 27

    /** Frames of 4 by roles 0 1, first bits right but for those that are told, 8 bits heard. */
    private static Framer locked(String told, int frames, int... wrong) {
        Framer x = line(SMALL + told, "0000");
        for (int f = 1; f < frames; f++) {
            Check.append(x, f % 2 == 0 ? "0000" : "1000");
        }
        for (int i : wrong) {
            x.turn(i);
        }
        x.hear(8);
        return x;
    }

    @Says(at = "P27", value = "one of the 40 behind those that are HEARD")
    static void oneOfForty() {
        for (int ahead = 39; ahead <= 41; ahead++) {
            Framer x = Check.made(WIDE + "wrong 1 1;");
            x.send(8, 11);
            x.send(5, 12);
            x.hear(START - ahead);
            Check.due("locked", x.receiver(0), 2);
            Check.due("a bit of role 0, " + ahead + " ahead", x.weak(), ahead == 39 ? START : NONE);
        }
    }

    @Says(at = "P27", value = "the RECEIVER would be LOST first among the 400 BITS behind those that are HEARD (as far as there"
        + " are any)")
    static void amongFourHundred() {
        for (int ahead = 15; ahead <= 16; ahead++) {
            Framer x = Check.made(WIDE + "wrong 2 4;");
            x.send(8, 11);
            x.send(5, 12);
            x.hear(START - ahead);
            Check.due("locked", x.receiver(0) == 2 && x.receiver(8) == 0, true);
            x.turn(START + 384);
            // It and that one are two of four: lost by the 400th bit, or the 401st.
            Check.due("lost, " + (384 + ahead) + " behind", x.weak(), ahead == 15 ? START : NONE);
        }
    }

    @Says(at = "P27", value = "were it alone turned over, the RECEIVER would be LOST first")
    static void lostFirst() {
        Check.due("the soonest is not the least", locked("", 10, 24, 28).weak(), 12);
        Check.due("one wrong one ahead of the window", locked("", 10, 24).weak(), 12);
        Check.due("within the window", locked("", 10, 20).weak(), 8);
        Check.due("none is wrong, one is enough", locked("wrong 1 1;", 10).weak(), 8);
        Framer x = locked("wrong 1 1;", 10);
        x.hear(1);
        Check.due("the next of role 0 or 1", x.weak(), 12);
    }

    @Says(at = "P27", value = "of several the least")
    static void ofSeveralTheLeast() {
        // Lost by 16 as it is: all but 12 and 16 themselves, and 8, by which it is lost ahead of that.
        Framer x = locked("", 10, 12, 16);
        Check.due("8: lost by 12", x.weak(), 8);
        x.hear(1);
        Check.due("9, as good as none", x.weak(), 9);
        x.hear(3);
        Check.due("13: by 12 it would last", x.weak(), 13);
    }

    @Says(at = "P27", value = "(as far as there are any)")
    static void asFarAsThereAreAny() {
        Framer x = locked("wrong 1 1;", 3);
        Check.due("four behind", x.weak(), 8);
        x.hear(1);
        Check.due("three behind", x.weak(), NONE);
        x.hear(3);
        Check.due("none behind", x.weak(), NONE);
        Check.due("an empty line", Check.made(SMALL).weak(), NONE);
        Check.due("two wrong ones, but one is behind the end", locked("", 3).weak(), NONE);
    }

    @Says(at = "P27", value = "NONE: by none.")
    static void lostByNone() {
        Check.due("two must be wrong", locked("", 10).weak(), NONE);
        Check.due("it is never locked", line("length 4;roles 0 1;least 24;wrong 1 1;", SMALL_BITS + SMALL_BITS).weak(), NONE);
        Framer x = line(SMALL + "wrong 1 1;", SMALL_BITS + "1" + "111");
        x.hear(9);
        Check.due("it was lost", x.receiver(5), 1);
        Check.due("that it was lost ahead does not count", x.weak(), NONE);
        Framer y = line(SMALL + "wrong 1 1;", SMALL_BITS + "0000");
        Check.due("it hunts, will be locked, and lost", y.weak(), 8);
    }
}
