/** Each sentence of term 3 and of promises 10, 16 to 20 that names a boundary: the RECEIVER. */
public final class ReceiverBoundsTest {
    private static final int NONE = Framer.NONE;
    private static final int MIN = Integer.MIN_VALUE;
    private static final int MAX = Integer.MAX_VALUE;
    private static final String SMALL = Scenes.SMALL;
    private static final String SMALL_BITS = Scenes.SMALL_BITS;
    private static final String CHECKED = Scenes.CHECKED;
    private static final String CHECKED_BITS = Scenes.CHECKED_BITS;
    private static final String LINKED = "length 4;roles 0 1 d;least 2;wrong 1 1;";
    private static final String LINKED_BITS = "0000 1000 1000";

    private ReceiverBoundsTest() {
    }

    public static void main(String[] args) throws IllegalAccessException {
        Sentences.run(ReceiverBoundsTest.class);
    }

    private static Framer heard(String told, String bits) {
        Framer x = Check.made(told);
        Check.append(x, bits);
        x.hear(x.count(11));
        return x;
    }

    private static void hear(Framer x, String bits) {
        int before = x.count(11) - x.count(12);
        Check.append(x, bits);
        x.hear(x.count(11) - x.count(12) - before);
    }

    /** Frames of 4 by roles 0 1, the first of role 0: their first bits right (R) or wrong (W). */
    private static String frames(String flags) {
        StringBuilder b = new StringBuilder();
        for (int f = 0; f < flags.length(); f++) {
            int right = f % 2;
            b.append(flags.charAt(f) == 'R' ? right : 1 - right).append("000");
        }
        return b.toString();
    }

    private static void left(String where, Framer x, int... due) {
        Check.due(where + ": left", x.receiver(1), due.length);
        for (int k = 0; k < due.length; k++) {
            Check.due(where + ": candidate(" + k + ")", x.candidate(k), due[k]);
        }
        Check.due(where + ": no more", x.candidate(due.length), NONE);
    }

    private static void locksAt(String told, String bits, int due) {
        Framer x = Check.made(told);
        Check.append(x, bits);
        Check.due(told + " locks(0)", x.locks(0), due);
    }

    // ---- term 3: it hunts

    @Says(at = "T3", value = "(at first it HUNTS)")
    static void atFirstItHunts() {
        Check.due("at first", new Framer().receiver(0), 0);
        Check.due("told anew", Check.made(CHECKED).receiver(0), 0);
    }

    @Says(at = "T3", value = "CANDIDATES are all positions in a SUPERFRAME, 0 to LENGTH times the number of ROLES less 1")
    static void allPositions() {
        left("small", Check.made(SMALL), 0, 1, 2, 3, 4, 5, 6, 7);
        Framer x = Check.made("length 24;roles 010101010101;");
        Check.due("left", x.receiver(1), 288);
        Check.due("the first", x.candidate(0), 0);
        Check.due("the last", x.candidate(287), 287);
        Check.due("behind the last", x.candidate(288), NONE);
    }

    @Says(at = "T3", value = "is struck, as soon as a BIT that is the first one of a FRAME by it, of ROLE 0 or 1, is the"
        + " other one")
    static void struckAtOnce() {
        left("a one", heard(SMALL, "1"), 1, 2, 3, 4, 5, 6, 7);
        left("a zero", heard(SMALL, "0"), 0, 1, 2, 3, 5, 6, 7);
        left("a one ahead of the end", heard(SMALL, "01"), 0, 1, 2, 3, 5, 6);
        left("a superframe", heard("length 4;roles 0 0;least 24;", "0110 0110"), 0, 1, 4, 5);
        left("a superframe and more", heard("length 4;roles 0 0;least 24;", "0110 0110 0111"), 0, 4);
    }

    @Says(at = "T3", value = "of ROLE 0 or 1")
    static void checksAndLinkStrikeNone() {
        left("c and d, a one", heard("length 4;roles 0 c d 1;", "1"), 1, 2, 3, 4, 5, 6, 7, 8, 9, 10, 11, 12, 13, 14, 15);
        left("c and d, a zero", heard("length 4;roles 0 c d 1;", "0"), 0, 1, 2, 3, 4, 5, 6, 7, 8, 9, 10, 11, 13, 14, 15);
        left("d first, a one", heard("length 4;roles d 0 c 1;", "1"), 0, 1, 2, 3, 5, 6, 7, 8, 9, 10, 11, 12, 13, 14, 15);
        left("d first, a zero", heard("length 4;roles d 0 c 1;", "0"), 0, 1, 2, 3, 4, 5, 6, 7, 8, 9, 10, 11, 13, 14, 15);
    }

    @Says(at = "T3", value = "if none is left, it HUNTS anew from the next BIT on (STARTS: how often it began to HUNT, 1 at"
        + " first)")
    static void noneIsLeft() {
        Framer x = heard(SMALL, "1111 111");
        left("one is left, by which one bit was heard", x, 1);
        Check.due("starts", x.receiver(2), 1);
        hear(x, "1");
        Check.due("starts anew", x.receiver(2), 2);
        Check.due("heard since", x.receiver(7), 0);
        left("all are again", x, 0, 1, 2, 3, 4, 5, 6, 7);
        hear(x, "0");
        left("from the next bit on", x, 0, 1, 2, 3, 5, 6, 7);
        Check.due("heard since", x.receiver(7), 1);
    }

    @Says(at = "T3", value = "If one is left, by which LEAST or more BITS of ROLE 0 or 1 were heard since it HUNTS")
    static void leastOrMore() {
        String bits = SMALL_BITS + SMALL_BITS + "0";
        locksAt("length 4;roles 0 1;least 2;", bits, 8);
        locksAt("length 4;roles 0 1;least 3;", bits, 9);
        locksAt("length 4;roles 0 1;least 4;", bits, 13);
        locksAt("length 4;roles 0 1;least 5;", bits, 17);
        locksAt("length 4;roles 0 1;least 6;", bits, NONE);
    }

    @Says(at = "T3", value = "LEAST or more BITS of ROLE 0 or 1")
    static void linkDoesNotCount() {
        String bits = "0000 0000 0000 1000 0000 0000 0000 1";
        locksAt("length 4;roles 0 d d 1;least 2;", bits, 16);
        locksAt("length 4;roles 0 d d 1;least 3;", bits, 17);
        locksAt("length 4;roles 0 d d 1;least 4;", bits, 29);
    }

    @Says(at = "T3", value = "were heard since it HUNTS")
    static void countedSinceItHunts() {
        locksAt("length 4;roles 0 1;least 2;", "1111 1111" + SMALL_BITS + SMALL_BITS, 16);
        locksAt("length 4;roles 0 1;least 4;", "1111 1111" + SMALL_BITS + SMALL_BITS, 21);
    }

    @Says(at = "T3", value = "If one is left")
    static void twoAreLeft() {
        Framer x = heard("length 4;roles 0 0;least 2;", "0111 0111 0111 0111 0111 0111");
        left("two that are alike", x, 0, 4);
        Check.due("it hunts", x.receiver(0), 0);
        Check.due("starts", x.receiver(2), 1);
        Framer y = heard(SMALL, "0000 100");
        left("two by which two were heard", y, 0, 5);
        Check.due("it hunts", y.receiver(0), 0);
    }

    @Says(at = "T3", value = "it VERIFIES, if there are CHECKS, else it is LOCKED: its position is followed from then on")
    static void verifiesOrIsLocked() {
        Framer x = heard(SMALL, "0000 100");
        Check.due("it hunts", x.receiver(0), 0);
        hear(x, "0");
        Check.receiver("locked", x, 2, 1, 1, 0, 1, 0, 0, 0);
        Framer y = heard(CHECKED, "0000 1000 000");
        Check.due("it hunts", y.receiver(0), 0);
        hear(y, "0");
        Check.receiver("verifies", y, 1, 1, 1, 0, 0, 0, 0, 0);
        hear(y, "0000 1000 000");
        Check.due("the last position", y.receiver(6), 11);
        hear(y, "0");
        Check.due("the first one", y.receiver(6), 0);
        // Two zeros of a frame, then as it goes: position 2 is followed from the middle of a frame on.
        Framer z = heard(SMALL, "00 1000 00");
        Check.receiver("locked amid a frame", z, 2, 1, 1, 0, 1, 0, 2, 0);
    }

    // ---- term 3: it verifies

    @Says(at = "T3", value = "It VERIFIES: if a BIT of ROLE 0 or 1 is the other one, it HUNTS anew from the next BIT on.")
    static void verifyingAWrongBit() {
        Framer x = heard(CHECKED, CHECKED_BITS + "1");
        Check.receiver("the first", x, 0, 12, 2, 0, 0, 0, NONE, 0);
        Framer y = heard(CHECKED, CHECKED_BITS + "0000 0");
        Check.receiver("the second", y, 0, 12, 2, 0, 0, 0, NONE, 0);
        Framer z = heard(CHECKED, CHECKED_BITS + "0111 1111 1111");
        Check.receiver("all others of it", z, 1, 1, 1, 0, 0, 0, 0, 12);
    }

    @Says(at = "T3", value = "Behind the last BIT of a SUPERFRAME, if the one ahead of it was heard from its first BIT on"
        + " since it VERIFIES")
    static void theOneAheadFromItsFirstBitOn() {
        Framer x = heard(CHECKED, CHECKED_BITS + CHECKED_BITS);
        Check.receiver("the one ahead was not", x, 1, 1, 1, 0, 0, 0, 0, 12);
        hear(x, "0000 1000 000");
        Check.receiver("ahead of the last bit", x, 1, 1, 1, 0, 0, 0, 11, 23);
        hear(x, "0");
        Check.receiver("behind it", x, 2, 1, 1, 0, 1, 0, 0, 0);
    }

    @Says(at = "T3", value = "if the one ahead of it was heard from its first BIT on since it VERIFIES")
    static void fromTheMiddleOn() {
        // From position 4 on it verifies behind 12 bits; c of the second whole one is wrong, and not looked at.
        Framer x = heard(CHECKED, "1000 0000" + "0000");
        Check.receiver("verifies", x, 1, 1, 1, 0, 0, 0, 4, 0);
        hear(x, "1000 0000");
        Check.receiver("the end of the first", x, 1, 1, 1, 0, 0, 0, 0, 8);
        hear(x, "0000 1000 1000");
        Check.receiver("the end of the second", x, 1, 1, 1, 0, 0, 0, 0, 20);
        hear(x, "0000 1000 000");
        Check.receiver("ahead of the end of the third", x, 1, 1, 1, 0, 0, 0, 11, 31);
        hear(x, "0");
        Check.receiver("the end of the third", x, 2, 1, 1, 0, 1, 0, 0, 0);
    }

    @Says(at = "T3", value = "if the BITS of c are the CHECKS of the one ahead, it is LOCKED")
    static void theBitsOfCAreTheChecks() {
        Framer x = heard(CHECKED, CHECKED_BITS + "0100 1000 0000");
        hear(x, "0000 1000 1000");
        Check.due("an odd number of ones ahead of a 1", x.receiver(0), 2);
        Framer y = heard(CHECKED, CHECKED_BITS + "0000 1000 1000");
        hear(y, "0111 1111 0111");
        Check.due("it is c of the later, by the bits of the one ahead", y.receiver(0), 2);
    }

    @Says(at = "T3", value = "if not, that was a MIMIC: it HUNTS anew from the next BIT on")
    static void aMimic() {
        Framer x = heard(CHECKED, CHECKED_BITS + CHECKED_BITS + "0000 1000 100");
        Check.receiver("ahead of its last bit", x, 1, 1, 1, 0, 0, 0, 11, 23);
        hear(x, "0");
        Check.receiver("a mimic", x, 0, 12, 2, 1, 0, 0, NONE, 0);
        hear(x, "1");
        Check.due("from the next bit on", x.candidate(0), 1);
        Framer y = heard(CHECKED, CHECKED_BITS + "0100 1000 0000" + CHECKED_BITS);
        Check.receiver("an odd number of ones ahead of a 0", y, 0, 12, 2, 1, 0, 0, NONE, 0);
    }

    @Says(at = "T3", value = "if the BITS of c are the CHECKS of the one ahead, it is LOCKED")
    static void theFirstFrameMayBeC() {
        String bits = "0000 0000 1000";
        for (int c = 0; c < 2; c++) {
            Framer x = heard("length 4;roles c 0 1;poly 1;least 2;", bits + bits + c + "000 0000 1000");
            Check.due("c is " + c, x.receiver(0), c == 0 ? 2 : 0);
            Check.due("mimics", x.receiver(3), c);
        }
    }

    @Says(at = "T3", value = "if not, that was a MIMIC")
    static void oneOfTwoChecksIsEnough() {
        for (int bad = 0; bad < 4; bad++) {
            Framer x = Check.made("length 4;roles 0 1 c c;poly 1;least 2;");
            Check.append(x, "0000 1000 0000 0000 0000 1000 0000 0000 0000 1000 0000 0000");
            int checks = x.checks(16);
            if (bad >> 1 == 1) {
                x.turn(40);
            }
            if ((bad & 1) == 1) {
                x.turn(44);
            }
            x.hear(48);
            Check.due("c that are " + bad, x.receiver(0), bad == checks ? 2 : 0);
            Check.due("mimics", x.receiver(3), bad == checks ? 0 : 1);
        }
    }

    // ---- term 3: it is locked

    private static void lost(String told, String flags, int wrong) {
        Framer x = heard(SMALL + told, SMALL_BITS + frames(flags.substring(0, flags.length() - 1)));
        Check.due(told + flags + ": locked ahead of the last", x.receiver(0), 2);
        hear(x, frames(flags).substring(4 * flags.length() - 4, 4 * flags.length() - 3));
        boolean isLost = wrong == NONE;
        Check.due(told + flags + ": lost", x.receiver(5), isLost ? 1 : 0);
        Check.due(told + flags + ": wrong ones", x.receiver(8), isLost ? 0 : wrong);
        Check.due(told + flags + ": state", x.receiver(0), isLost ? 0 : 2);
    }

    @Says(at = "T3", value = "if of the latest OF of these since it is LOCKED WRONG or more were wrong, it is LOST")
    static void wrongOfTheLatest() {
        lost("", "RRRRW", 1);
        lost("", "WRRW", NONE);
        lost("", "WRRRW", 1);
        lost("", "RRWRRRRW", 1);
        lost("wrong 1 1;", "RRRRRW", NONE);
        lost("wrong 1 8;", "RW", NONE);
        lost("wrong 4 8;", "WWWRRRRW", NONE);
        lost("wrong 4 8;", "WWWRRRRRW", 3);
        lost("wrong 4 8;", "RRRRRRWWWR", 3);
        lost("wrong 4 4;", "WWWRWWW", 3);
        lost("wrong 4 4;", "WWWRWWWW", NONE);
        lost("wrong 2 2;", "WRWRWRW", 1);
        lost("wrong 2 3;", "WRRWRRW", 1);
        lost("wrong 2 3;", "WRRWRW", NONE);
    }

    @Says(at = "T3", value = "of these since it is LOCKED")
    static void fewerThanOfSinceItIsLocked() {
        lost("", "WW", NONE);
        lost("wrong 4 8;", "WWWW", NONE);
        lost("wrong 1 8;", "W", NONE);
        lost("wrong 3 8;", "WW", 2);
    }

    @Says(at = "T3", value = "of these since it is LOCKED")
    static void wrongOnesOfALockBeforeAreGone() {
        Framer x = heard(SMALL, SMALL_BITS + frames("WW"));
        Check.due("lost", x.receiver(5), 1);
        for (int n = 0; n < 3; n++) {
            hear(x, SMALL_BITS);
        }
        Check.due("locked again", x.receiver(0), 2);
        Check.due("twice", x.receiver(4), 2);
        Check.due("no wrong ones", x.receiver(8), 0);
        hear(x, frames("W"));
        Check.due("one of them", x.receiver(8), 1);
        Check.due("still locked", x.receiver(0), 2);
    }

    @Says(at = "T3", value = "each BIT of ROLE 0 or 1 is right or wrong")
    static void otherBitsAreNeither() {
        Framer x = heard("length 4;roles 0 1 d;least 2;wrong 1 1;", LINKED_BITS);
        hear(x, "0111 1111 0111");
        hear(x, "0111 1111 1111");
        Check.receiver("others are neither", x, 2, 1, 1, 0, 1, 0, 0, 24, 0);
    }

    @Says(at = "T3", value = "it is LOST: it HUNTS anew from the next BIT on")
    static void lostFromTheNextBitOn() {
        Framer x = heard(SMALL + "wrong 1 1;", SMALL_BITS + "1");
        Check.receiver("lost", x, 0, 8, 2, 0, 1, 1, NONE, 0, 0);
        hear(x, "1");
        left("from the next bit on", x, 1, 2, 3, 4, 5, 6, 7);
        Check.due("heard since", x.receiver(7), 1);
    }

    @Says(at = "T3", value = "CHECKS that are not right (as above, of SUPERFRAMES heard whole since it is LOCKED, and the one"
        + " ahead, too) are counted, no more")
    static void checksNotRight() {
        String bad = "0000 1000 1000";
        Framer x = heard(CHECKED, CHECKED_BITS + CHECKED_BITS + CHECKED_BITS + bad);
        Check.due("the one ahead was not heard since", x.receiver(9), 0);
        hear(x, "0000 1000 100");
        Check.due("ahead of its last bit", x.receiver(9), 0);
        hear(x, "0");
        Check.due("behind it", x.receiver(9), 1);
        hear(x, CHECKED_BITS);
        Check.due("right", x.receiver(9), 1);
        hear(x, bad);
        Check.due("not right", x.receiver(9), 2);
        Check.receiver("no more than counted", x, 2, 1, 1, 0, 1, 0, 0, 48, 0);
        // Its checks are 1 0, by ones 4, 8, 12: what c are does not matter.
        String two = "0000 1000 0000 0000";
        Framer y = heard("length 4;roles 0 1 c c;poly 1;least 2;", two + two + "0000 1000 1000 0000" + two);
        Check.due("locked", y.receiver(0), 2);
        hear(y, "0000 1000 0000 1000");
        Check.due("both c of one superframe are wrong: one", y.receiver(9), 1);
    }

    // ---- term 3: the link

    /** Locked; the superframes of some values are left to hear. */
    private static Framer ten(int... values) {
        Framer x = Scenes.ten(values);
        x.hear(48);
        Check.due("locked", x.receiver(4), 1);
        return x;
    }

    @Says(at = "T3", value = "BITS of d heard since it is LOCKED")
    static void linkSinceItIsLocked() {
        // The ten zeros that were heard ahead of it began none.
        Framer x = ten(0x5A);
        x.hear(40);
        Check.due("not yet", x.receiver(16), 0);
        x.hear(1);
        Check.due("taken", x.receiver(16), 1);
        Check.due("it", x.value(0), 0x5A);
        Check.due("none is spoilt", x.receiver(17), 0);
    }

    @Says(at = "T3", value = "as long as no VALUE is begun, a 0 begins one")
    static void aZeroBeginsOne() {
        Framer x = ten();
        x.hear(48);
        Check.due("ones begin none", x.receiver(16) + x.receiver(17), 0);
        x.say(255);
        x.say(0);
        x.send(2, 3);
        x.hear(96);
        Check.due("both", x.receiver(16), 2);
        Check.due("the later", x.value(0), 0);
        Check.due("the one ahead", x.value(1), 255);
    }

    @Says(at = "T3", value = "the 8 BITS of d behind that are it")
    static void eightBits() {
        Framer x = ten(1, 128, 255, 0, 0xA6);
        x.hear(240);
        int[] due = {0xA6, 0, 255, 128, 1, NONE};
        for (int k = 0; k < due.length; k++) {
            Check.due("value(" + k + ")", x.value(k), due[k]);
        }
    }

    @Says(at = "T3", value = "by the next one it is TAKEN, if that is 1, else SPOILT")
    static void takenOrSpoilt() {
        Framer x = ten(7, 9);
        x.turn(48 + 40);
        x.hear(40);
        Check.due("not yet", x.receiver(17), 0);
        x.hear(1);
        Check.due("spoilt", x.receiver(17), 1);
        Check.due("not taken", x.receiver(16), 0);
        Check.due("no value", x.value(0), NONE);
        x.hear(55);
        Check.due("the 0 that spoilt it begins none", x.receiver(16), 1);
        Check.due("the next", x.value(0), 9);
        Check.due("one was spoilt", x.receiver(17), 1);
    }

    @Says(at = "T3", value = "What is begun as it is LOST is gone.")
    static void goneAsItIsLost() {
        Framer x = heard(LINKED, LINKED_BITS + "0000 1000 0000");
        hear(x, "1");
        Check.due("lost", x.receiver(5), 1);
        for (int n = 0; n < 4; n++) {
            x.send(8, n);
        }
        x.hear(384);
        Check.due("locked again", x.receiver(0), 2);
        Check.due("ones of ten superframes at least", x.receiver(7) > 120, true);
        Check.due("nothing is taken", x.receiver(16), 0);
        Check.due("nothing is spoilt", x.receiver(17), 0);
    }

    // ---- term 3: the store and the other clock

    @Says(at = "T3", value = "Each FRAME heard whole since it is LOCKED comes into the STORE")
    static void heardWholeSinceItIsLocked() {
        Framer x = heard(SMALL, SMALL_BITS);
        Check.due("what was heard ahead of it", x.receiver(10), 0);
        hear(x, "000");
        Check.due("three of four", x.receiver(10), 0);
        hear(x, "0");
        Check.due("the first", x.receiver(10), 1);
        Framer y = heard(SMALL, "00 1000 00");
        Check.due("locked amid a frame", y.receiver(6), 2);
        hear(y, "00");
        Check.due("half a frame", y.receiver(10), 0);
        hear(y, "100");
        Check.due("three of four", y.receiver(10), 0);
        hear(y, "0");
        Check.due("the first whole one", y.receiver(10), 1);
        Check.due("is it in the store", y.receiver(14), 1);
        hear(y, "00");
        Check.due("its number", y.frame(0), 0);
        Check.due("its place", y.frame(1), 1);
    }

    @Says(at = "T3", value = "Each FRAME heard whole since it is LOCKED")
    static void notWholeAsItIsLost() {
        Framer x = heard(SMALL + "wrong 1 1;", SMALL_BITS + "0000 1000");
        Check.due("two", x.receiver(10), 2);
        hear(x, "1000 1000 0000");
        Check.due("lost, and locked again", x.receiver(4), 2);
        Check.due("behind the rest of a frame", x.receiver(6), 4);
        Check.due("none between", x.receiver(10), 2);
        hear(x, "1000");
        Check.due("the next", x.receiver(10), 3);
    }

    @Says(at = "T3", value = "it is numbered from 0 on, and by its place in the SUPERFRAME")
    static void numberAndPlace() {
        Framer x = heard("length 4;roles 0 0 1;least 2;", "0000 0000 1000");
        Check.due("locked", x.receiver(0), 2);
        for (int f = 0; f < 7; f++) {
            hear(x, f % 3 == 2 ? "1000" : "0000");
            Check.due("number", x.frame(0), f);
            Check.due("place", x.frame(1), f % 3);
        }
    }

    @Says(at = "T3", value = "if there are two already, the older one is DROPPED")
    static void theOlderOneIsDropped() {
        Framer x = Scenes.slow();
        x.hear(143);
        // 143 * 950 = 33 * 4000 + 3850: 33 reads, the first two of nothing.
        Check.receiver("two are in it", x, 2, 1, 1, 0, 1, 0, 7, 135, 0, 0, 33, 0, 31, 0, 2, 3850);
        Check.due("read last", x.frame(0), 30);
        x.hear(1);
        Check.receiver("a third", x, 2, 1, 1, 0, 1, 0, 0, 136, 0, 0, 34, 1, 32, 0, 1, 800);
        Check.due("31 was dropped", x.frame(0), 32);
        x.hear(5);
        Check.due("the next", x.frame(0), 33);
        Check.due("dropped", x.receiver(11), 1);
    }

    @Says(at = "T3", value = "for each BIT that is heard, LOCKED or not, it goes on by 1000 and DRIFT")
    static void lockedOrNot() {
        Framer x = Check.made("length 4;roles 0 1;least 2;drift 7;");
        Check.append(x, "101");
        for (int n = 1; n <= 3; n++) {
            x.hear(1);
            Check.due("it hunts", x.receiver(15), 1007 * n);
        }
        Framer y = heard(CHECKED + "lag 7;", CHECKED_BITS + "0");
        // 13 * 993 = 3 * 4000 + 909
        Check.due("it verifies", y.receiver(15), 909);
        Framer z = heard(SMALL + "drift 50;", SMALL_BITS + "00");
        Check.due("it is locked", z.receiver(15), 10 * 1050 - 8000);
        Framer none = heard(SMALL, SMALL_BITS + "0");
        Check.due("no drift", none.receiver(15), 1000);
    }

    @Says(at = "T3", value = "as soon as it is at 1000 times LENGTH or more, that is taken off")
    static void atThousandTimesLength() {
        Framer x = Check.made("length 19;roles 0 1;lag 50;");
        x.send(1, 1);
        x.hear(19);
        Check.due("19 bits", x.receiver(15), 18050);
        x.hear(1);
        Check.due("20 bits: exactly", x.receiver(15), 0);
        Framer y = Check.made("length 4;roles 0 1;");
        y.send(1, 1);
        y.hear(3);
        Check.due("three", y.receiver(15), 3000);
        y.hear(1);
        Check.due("four", y.receiver(15), 0);
        Framer late = Check.made("length 4;roles 0 1;lag 1;");
        late.send(1, 1);
        late.hear(4);
        Check.due("four, by four less", late.receiver(15), 3996);
        late.hear(1);
        Check.due("five", late.receiver(15), 995);
        Framer z = Check.made("length 4;roles 0 1;drift 50;");
        z.send(1, 1);
        z.hear(4);
        Check.due("four, fast", z.receiver(15), 200);
    }

    @Says(at = "T3", value = "a FRAME is READ: the older one in the STORE")
    static void theOlderOneIsRead() {
        Framer x = Scenes.slow();
        x.hear(140);
        Check.due("two", x.receiver(14), 2);
        int number = x.frame(0);
        x.hear(4);
        Check.due("32 of 32, 33", x.frame(0), 32);
        Check.due("one is left", x.receiver(14), 1);
        Check.due("30 was the one ahead", number, 30);
        for (int n = 0; n < 5; n++) {
            int start = 8 + 4 * x.frame(0);
            Check.due("its place", x.frame(1), x.frame(0) % 2);
            Check.due("its bits", x.frame(10), x.bit(start + 1) << 2 | x.bit(start + 2) << 1 | x.bit(start + 3));
            x.hear(5);
        }
    }

    @Says(at = "T3", value = "for each BIT that is heard, LOCKED or not")
    static void theStoreStaysAsItIsLost() {
        Framer x = Scenes.slow();
        x.turn(144);
        x.turn(148);
        x.hear(149);
        Check.due("lost", x.receiver(5), 1);
        Check.due("read last", x.frame(0), 33);
        Check.due("frame 34 is in the store", x.receiver(14), 1);
        // 950 a bit: it reads behind 152 and 156 bits, ahead of any lock.
        x.hear(2);
        Check.due("still", x.frame(0), 33);
        x.hear(1);
        Check.due("it is read", x.frame(0), 34);
        Check.due("nothing again", x.receiver(13), 0);
        x.hear(4);
        Check.due("it again", x.receiver(13), 1);
        Check.due("read last", x.frame(0), 34);
    }

    @Says(at = "T3", value = "if there is none, the one READ last AGAIN (if there was any)")
    static void againIfThereWasAny() {
        Framer x = Check.made(SMALL + "drift 50;");
        Check.append(x, SMALL_BITS + "0000 1000 0000 1000 0000");
        x.hear(11);
        Check.receiver("nothing came", x, 2, 1, 1, 0, 1, 0, 3, 3, 0, 0, 0, 0, 0, 0, 0);
        Check.due("nothing was read", x.frame(0), NONE);
        // 1050 a bit: it reads behind 12, 16, 20, and, ahead of the fourth frame, behind 23 bits.
        x.hear(11);
        Check.receiver("three", x, 2, 1, 1, 0, 1, 0, 6, 14, 0, 0, 3, 0, 3, 0, 0, 3100);
        x.hear(1);
        Check.receiver("again", x, 2, 1, 1, 0, 1, 0, 7, 15, 0, 0, 3, 0, 3, 1, 0, 150);
        Check.due("the one read last", x.frame(0), 2);
        x.hear(4);
        Check.due("the fourth", x.frame(0), 3);
        Check.due("again", x.receiver(13), 1);
    }

    @Says(at = "T3", value = "the one READ last AGAIN (if there was any)")
    static void againOfTheOnlyOne() {
        Framer x = heard(SMALL + "wrong 1 1;", SMALL_BITS + "0000 000");
        Check.receiver("lost, one was read", x, 0, x.receiver(1), 2, 0, 1, 1, NONE, 2, 0, 0, 1, 0, 1, 0, 0, 3000);
        hear(x, "0");
        Check.due("again, though it is lost", x.receiver(13), 1);
        Check.due("the one read", x.frame(0), 0);
        Check.due("read", x.receiver(12), 1);
    }

    @Says(at = "T3", value = "For each BIT: what it brings to the STORE first, then the clock.")
    static void storeFirstThenClock() {
        Framer x = heard(SMALL, SMALL_BITS + "000");
        Check.due("the clock", x.receiver(15), 3000);
        hear(x, "0");
        Check.receiver("it came and was read", x, 2, 1, 1, 0, 1, 0, 4, 4, 0, 0, 1, 0, 1, 0, 0, 0);
    }

    // ---- term 3: signals

    private static final String SIGNALS = "length 4;roles 0 0 0 1;least 2;width 3;";
    private static final String SIGNALS_BITS = "0000 0000 0000 1000";

    private static void signals(String told, String lasts, int... due) {
        Framer x = heard(SIGNALS + told, SIGNALS_BITS);
        Check.due(told + "locked", x.receiver(0), 2);
        for (int f = 0; f < due.length; f++) {
            hear(x, (f % 4 == 3 ? "100" : "000") + lasts.charAt(f));
            Check.due(told + lasts + ": read", x.frame(0), f);
            Check.due(told + lasts + ": signal behind frame " + f, x.signal(0), due[f]);
        }
    }

    @Says(at = "T1", value = "in FRAMES f of a SUPERFRAME (from 0 on), f + 1 being a multiple of it, the last BIT of each"
        + " CHANNEL is a SIGNAL")
    static void framesWithSignals() {
        int n = NONE;
        signals("stolen 1;", "0110", 0, 1, 1, 1);
        signals("stolen 2;", "10101111", n, 0, 0, 0, 0, 0, 0, 1);
        signals("stolen 3;", "11011111", n, n, 0, 0, 0, 0, 1, 1);
        signals("stolen 4;", "11101111", n, n, n, 0, 0, 0, 0, 1);
        signals("stolen 5;", "11111111", n, n, n, n, n, n, n, n);
        signals("stolen 12;", "11111111", n, n, n, n, n, n, n, n);
        signals("stolen 0;", "11111111", n, n, n, n, n, n, n, n);
    }

    @Says(at = "T3", value = "of the latest three SIGNALS of it in FRAMES that were READ, AGAIN not counted, that which is"
        + " more")
    static void theLatestThree() {
        signals("stolen 1;", "11010010", 1, 1, 1, 1, 0, 0, 0, 0);
        signals("stolen 1;", "00101101", 0, 0, 0, 0, 1, 1, 1, 1);
        signals("stolen 1;", "01011", 0, 1, 0, 1, 1);
    }

    @Says(at = "T3", value = "(of one or two, if alike: the later one)")
    static void ofOneOrTwo() {
        signals("stolen 1;", "0", 0);
        signals("stolen 1;", "1", 1);
        signals("stolen 1;", "01", 0, 1);
        signals("stolen 1;", "10", 1, 0);
        signals("stolen 1;", "11", 1, 1);
        signals("stolen 1;", "00", 0, 0);
    }

    @Says(at = "T3", value = "AGAIN not counted")
    static void againIsNotCounted() {
        Framer x = heard(SMALL + "drift 50;width 3;stolen 1;", SMALL_BITS + "0001 1001 0000 100");
        Check.due("once again", x.receiver(13), 1);
        Check.due("of 1, 1, 0", x.signal(0), 1);
    }

    @Says(at = "T3", value = "in FRAMES that were READ")
    static void droppedIsNotCounted() {
        Framer x = Scenes.slow();
        int[] frames = {29, 30, 31, 32, 33};
        int[] due = {1, 0, 0, 1, 0};
        for (int i = 0; i < frames.length; i++) {
            int last = 8 + 4 * frames[i] + 3;
            if (x.bit(last) != due[i]) {
                x.turn(last);
            }
        }
        x.hear(144);
        Check.due("31 was dropped", x.receiver(11), 1);
        Check.due("of 1, 0, 1", x.signal(0), 1);
    }

    // ---- promise 10

    @Says(at = "P10", value = "The RECEIVER hears n BITS more, 1 to 4000: how many are HEARD.")
    static void hearOneToFourThousand() {
        Framer x = Check.made("length 20;roles 0 1;");
        for (int n = 0; n < 12; n++) {
            x.send(8, n);
        }
        x.send(4, 1);
        int acts = x.count(13);
        for (int n : new int[] {0, -1, 4001, MIN, MAX}) {
            Check.due("hear " + n, x.hear(n), NONE);
        }
        Check.due("none was heard", x.count(12), 0);
        Check.due("acts", x.count(13), acts);
        Check.due("4000", x.hear(4000), 4000);
        x.undo();
        Check.due("1", x.hear(1), 1);
        Check.due("4000 behind it", x.hear(4000), NONE);
        Check.due("3999", x.hear(3999), 4000);
    }

    @Says(at = "P10", value = "NONE: another n, there are not so many.")
    static void hearNotSoMany() {
        Framer x = Check.made(SMALL);
        Check.due("of an empty line", x.hear(1), NONE);
        Check.append(x, "01011");
        Check.due("one too many", x.hear(6), NONE);
        Check.due("all but one", x.hear(4), 4);
        Check.due("one too many", x.hear(2), NONE);
        Check.due("so many that a sum wraps around", x.hear(MAX - 3), NONE);
        Check.due("the last", x.hear(1), 5);
        Check.due("there are none", x.hear(1), NONE);
        Check.due("heard", x.count(12), 5);
        Check.due("heard since it hunts", x.receiver(7), 5);
    }

    // ---- promise 16

    @Says(at = "P16", value = "NONE for another what.")
    static void receiverOfAnotherWhat() {
        Framer x = heard(SMALL, SMALL_BITS);
        for (int what : new int[] {-1, 18, 19, -1000, MIN, MAX}) {
            Check.due("receiver " + what, x.receiver(what), NONE);
        }
        Check.due("the last", x.receiver(17), 0);
    }

    @Says(at = "P16", value = "1: CANDIDATES that are left (1, if it does not HUNT)")
    static void leftIfItDoesNotHunt() {
        Check.due("it hunts", Check.made(SMALL).receiver(1), 8);
        Check.due("it verifies", heard(CHECKED, CHECKED_BITS).receiver(1), 1);
        Check.due("it is locked", heard(SMALL, SMALL_BITS).receiver(1), 1);
        Check.due("still", heard(SMALL, SMALL_BITS + "1").receiver(1), 1);
    }

    @Says(at = "P16", value = "6: the position that the next BIT has by it (NONE: it HUNTS)")
    static void thePositionOfTheNextBit() {
        Framer x = heard(SMALL, "0000 100");
        Check.due("it hunts", x.receiver(6), NONE);
        hear(x, "0");
        for (int n = 0; n < 17; n++) {
            Check.due("position", x.receiver(6), n % 8);
            hear(x, n % 8 == 4 ? "1" : "0");
        }
        Check.due("one left, but it hunts", heard("length 4;roles 0 1;least 3;", SMALL_BITS).receiver(6), NONE);
    }

    @Says(at = "P16", value = "7: BITS heard since it HUNTS (since it is LOCKED; since it VERIFIES)")
    static void bitsHeardSince() {
        Framer x = Check.made(CHECKED);
        Check.append(x, CHECKED_BITS + CHECKED_BITS + CHECKED_BITS + "0");
        Check.due("at first", x.receiver(7), 0);
        x.hear(11);
        Check.due("it hunts", x.receiver(7), 11);
        x.hear(1);
        Check.due("it verifies", x.receiver(7), 0);
        x.hear(23);
        Check.due("it verifies", x.receiver(7), 23);
        x.hear(1);
        Check.due("it is locked", x.receiver(7), 0);
        x.hear(1);
        Check.due("it is locked", x.receiver(7), 1);
    }

    @Says(at = "P16", value = "8: wrong BITS of the latest OF (0: it is not LOCKED)")
    static void wrongBitsOfTheLatest() {
        Framer x = heard(SMALL + "wrong 3 4;", SMALL_BITS + frames("WRW"));
        Check.due("two", x.receiver(8), 2);
        hear(x, frames("RRRRRW").substring(12, 16));
        Check.due("two of four", x.receiver(8), 2);
        hear(x, frames("R"));
        Check.due("one of four", x.receiver(8), 1);
        Check.due("it hunts", heard(SMALL, "1111").receiver(8), 0);
        Check.due("it was lost", heard(SMALL, SMALL_BITS + frames("WW")).receiver(8), 0);
        Check.due("it verifies", heard(CHECKED, CHECKED_BITS).receiver(8), 0);
    }

    @Says(at = "P16", value = "2: STARTS, 3: MIMICS, 4: how often it was LOCKED, 5: how often LOST")
    static void howOften() {
        Framer x = Check.made(SMALL + "wrong 1 1;");
        for (int n = 1; n <= 4; n++) {
            Check.append(x, SMALL_BITS + "1");
            x.hear(9);
            Check.receiver("lost " + n, x, 0, 8, n + 1, 0, n, n);
        }
        Framer y = Check.made(CHECKED);
        for (int n = 1; n <= 3; n++) {
            Check.append(y, CHECKED_BITS + CHECKED_BITS + "0000 1000 1000");
            y.hear(36);
            Check.receiver("mimic " + n, y, 0, 12, n + 1, n, 0, 0);
        }
    }

    // ---- promise 17

    @Says(at = "P17", value = "The k-th CANDIDATE that is left, rising")
    static void candidatesRise() {
        Framer x = heard(SMALL, "0000 10");
        left("rising", x, 0, 5, 6);
        hear(x, "0");
        left("rising", x, 0, 5);
        Framer y = heard("length 4;roles 0 1 0;least 9;", "0001");
        // 0 0 0 strike 4, 3, 2; the one strikes those by which it is the first of role 0: 5, 9.
        left("rising over frames", y, 0, 1, 6, 7, 8, 10, 11);
    }

    @Says(at = "P17", value = "NONE: not so many, it does not HUNT.")
    static void noCandidate() {
        Framer x = heard(SMALL, "0000");
        for (int k : new int[] {-1, 4, 8, MIN, MAX}) {
            Check.due("candidate " + k, x.candidate(k), NONE);
        }
        Check.due("candidate 3", x.candidate(3), 7);
        Check.due("locked", heard(SMALL, SMALL_BITS).candidate(0), NONE);
        Check.due("verifies", heard(CHECKED, CHECKED_BITS).candidate(0), NONE);
        Check.due("one left", heard("length 4;roles 0 1;least 3;", SMALL_BITS).candidate(0), 0);
    }

    // ---- promise 18

    private static final String WIDE = "length 10;roles 0 1;width 4;least 2;";
    private static final String WIDE_BITS = "0000000000 1000000000";

    @Says(at = "P18", value = "2: its CHANNELS' BITS together as ones, 10 + i: what CHANNEL i has, as a number, its first BIT"
        + " highest (SIGNALS as they are)")
    static void whatChannelsHave() {
        Framer x = heard(WIDE, WIDE_BITS + "0 1010 0111 1");
        int[] due = {0, 0, 5, NONE, NONE, NONE, NONE, NONE, NONE, NONE, 10, 7, NONE};
        for (int w = 0; w < due.length; w++) {
            Check.due("frame(" + w + ")", x.frame(w), due[w]);
        }
        hear(x, "1 0001 1000 0");
        Check.due("ones", x.frame(2), 2);
        Check.due("channel 0", x.frame(10), 1);
        Check.due("channel 1", x.frame(11), 8);
        Framer y = heard(WIDE + "stolen 1;", WIDE_BITS + "0 1011 0111 0");
        Check.due("with its signal", y.frame(10), 11);
        Check.due("ones, with signals", y.frame(2), 6);
        Framer most = heard("length 9;roles 0 1;width 8;least 2;", "000000000 100000000 0 11111111");
        Check.due("the most", most.frame(10), 255);
        Check.due("no channel", heard(SMALL, SMALL_BITS + "0111").frame(2), 0);
    }

    @Says(at = "P18", value = "NONE: there was none, another what.")
    static void noFrame() {
        Framer x = heard(WIDE, WIDE_BITS + "0 1010 0111");
        for (int w : new int[] {0, 1, 2, 10, 11}) {
            Check.due("none was read: frame(" + w + ")", x.frame(w), NONE);
        }
        hear(x, "0");
        Check.append(x, "1 1111 1111 1 0 1111 1111 1");
        for (int w : new int[] {-1, 3, 9, 12, 13, 110, MIN, MAX}) {
            Check.due("frame(" + w + ")", x.frame(w), NONE);
        }
        Check.due("it was read", x.frame(0), 0);
        Check.due("no channel 0", heard(SMALL, SMALL_BITS + "0111").frame(10), NONE);
    }

    // ---- promise 19

    @Says(at = "P19", value = "NONE: there is no such CHANNEL, none was READ.")
    static void noSignal() {
        Framer x = heard(WIDE + "stolen 1;", WIDE_BITS + "0 1011 0110");
        Check.due("none was read", x.signal(0), NONE);
        hear(x, "0");
        Check.append(x, "1 1111 1111 1 0 1111 1111 1");
        Check.due("signal 0", x.signal(0), 1);
        Check.due("signal 1", x.signal(1), 0);
        for (int c : new int[] {-1, 2, 3, MIN, MAX}) {
            Check.due("signal " + c, x.signal(c), NONE);
        }
        Framer y = heard(WIDE + "stolen 2;", WIDE_BITS + "0 1111 1111 1");
        Check.due("a frame without signals was read", y.frame(0), 0);
        Check.due("no signal was", y.signal(0), NONE);
    }

    // ---- promise 20

    @Says(at = "P20", value = "The k-th of the latest 8 VALUES that were TAKEN, the latest first. NONE: not so many.")
    static void theLatestEight() {
        Framer x = ten(1, 2, 3, 4, 5, 6, 7, 8);
        x.hear(48 * 7);
        int[] seven = {7, 6, 5, 4, 3, 2, 1, NONE};
        for (int k = 0; k < seven.length; k++) {
            Check.due("seven: value(" + k + ")", x.value(k), seven[k]);
        }
        x.hear(48);
        Check.due("eight: the first", x.value(7), 1);
        x.say(9);
        x.send(1, 1);
        x.hear(48);
        int[] nine = {9, 8, 7, 6, 5, 4, 3, 2, NONE, NONE};
        for (int k = 0; k < nine.length; k++) {
            Check.due("nine: value(" + k + ")", x.value(k), nine[k]);
        }
        Check.due("taken", x.receiver(16), 9);
        for (int k : new int[] {-1, MIN, MAX}) {
            Check.due("value " + k, x.value(k), NONE);
        }
        Check.due("none was", heard(Scenes.TEN, Scenes.TEN_BITS).value(0), NONE);
    }
}
