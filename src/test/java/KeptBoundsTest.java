/** Each sentence of term 4 and of promises 11, 28, 29 that names a boundary: what is undone and kept. */
public final class KeptBoundsTest {
    private static final int NONE = Framer.NONE;
    private static final int MIN = Integer.MIN_VALUE;
    private static final int MAX = Integer.MAX_VALUE;
    private static final String TOLD = "length 4;roles 0 1 d;width 3;stolen 1;least 2;";
    private static final String BITS = "0000 1000 1000";

    private KeptBoundsTest() {
    }

    public static void main(String[] args) throws IllegalAccessException {
        Sentences.run(KeptBoundsTest.class);
    }

    /** Locked, frames were read, a value is begun, a text is begun, a fault stands. */
    private static Framer busy() {
        Framer x = Check.made(TOLD);
        Check.append(x, BITS);
        x.say(200);
        x.say(7);
        x.send(8, 3);
        x.hear(60);
        Check.type(x, "poly 64;");
        x.scheme();
        Check.type(x, "width");
        Check.due("locked", x.receiver(0), 2);
        Check.due("read", x.frame(0) > 0, true);
        return x;
    }

    private static void act(Framer x, int a) {
        switch (a) {
            case 0: Check.due("say", x.say(9) > 0, true); break;
            case 1: Check.due("send", x.send(2, 8) > 0, true); break;
            case 2: Check.due("turn", x.turn(x.count(12)), true); break;
            case 3: Check.due("lose", x.lose(x.count(12), 3) > 0, true); break;
            case 4: Check.due("put", x.put(x.count(12), true) > 0, true); break;
            default: Check.due("hear", x.hear(13) > 0, true);
        }
    }

    /** State, and the first bits that are not heard. */
    private static String deep(Framer x) {
        StringBuilder b = new StringBuilder(Keep.state(x));
        int heard = x.count(12);
        for (int i = heard; i < heard + 6; i++) {
            b.append(' ').append(x.bit(i));
        }
        return b.append(' ').append(x.fault(true)).toString();
    }

    @Says(at = "What it is", value = "An object is used for at most 512 calls after it has been made")
    static void theLastCall() {
        Framer x = Check.made("length 4;roles 0 1;");
        int told = Framer.MOST_CALLS - x.callsLeft();
        for (int n = 1; n < Framer.MOST_CALLS - told; n++) {
            Check.due("put", x.put(0, n % 2 == 0), n);
        }
        Check.due("no call but one is left", x.callsLeft(), 1);
        Check.due("the last call", x.hear(400), 400);
    }

    // ---- term 4

    @Says(at = "T4", value = "ACTS that can be UNDONE, the latest 6: say(), send(), turn(), lose(), put(), hear()")
    static void theLatestSix() {
        Framer x = Check.made(TOLD);
        for (int n = 1; n <= 8; n++) {
            Check.due("put " + n, x.put(0, n % 2 == 0), n);
            Check.due("acts", x.count(13), Math.min(n, 6));
        }
        for (int n = 5; n >= 0; n--) {
            Check.due("undo", x.undo(), n);
            Check.due("bits", x.count(11), 2 + n);
        }
        Check.due("the first two stay", x.undo(), NONE);
        Keep.same("they are", Check.line(x), "10");
    }

    @Says(at = "T4", value = "say(), send(), turn(), lose(), put(), hear(), that were not refused")
    static void eachActIsUndone() {
        for (int a = 0; a < 6; a++) {
            Framer x = busy();
            String before = deep(x);
            act(x, a);
            Check.due("it changes something, act " + a, deep(x).equals(before), false);
            int acts = x.count(13);
            Check.due("undo of act " + a, x.undo(), acts - 1);
            Keep.same("undo of act " + a, deep(x), before);
        }
    }

    @Says(at = "T4", value = "that were not refused")
    static void refusedActsAreNone() {
        Framer x = busy();
        x.send(1, 1);
        int acts = x.count(13);
        String before = deep(x);
        x.say(256);
        x.send(9, 1);
        x.turn(0);
        x.lose(60, 501);
        x.put(59, true);
        x.hear(0);
        x.hear(4000);
        Check.due("acts", x.count(13), acts);
        Keep.same("refused acts", deep(x), before);
        int bits = x.count(11);
        x.undo();
        Check.due("the latest that was not refused is undone", x.count(11), bits - 12);
    }

    @Says(at = "T4", value = "scheme() without a FAULT, again() leave none to UNDO.")
    static void schemeAndAgainLeaveNone() {
        Framer x = busy();
        Check.due("acts behind a fault", x.count(13), 6);
        x.image(0);
        Check.due("acts behind image()", x.count(13), 6);
        Check.due("again", x.again(0), true);
        Check.due("none", x.count(13), 0);
        Check.due("none to undo", x.undo(), NONE);
        x.turn(60);
        Check.due("one", x.count(13), 1);
        x.key(Check.eight(" 5;", 0));
        Check.due("no fault", x.scheme(), 48);
        Check.due("none", x.count(13), 0);
        Check.due("none to undo", x.undo(), NONE);
    }

    @Says(at = "T4", value = "again() leave none to UNDO.")
    static void aRefusedAgainLeavesThem() {
        Framer x = busy();
        Check.due("none such", x.again(1), false);
        Check.due("another k", x.again(3), false);
        Check.due("another k", x.again(-1), false);
        Check.due("acts", x.count(13), 6);
        Check.due("undo", x.undo(), 5);
    }

    @Says(at = "T4", value = "Questions change nothing.")
    static void questionsChangeNothing() {
        Framer x = busy();
        x.send(1, 9);
        String before = deep(x);
        int acts = x.count(13);
        for (int round = 0; round < 2; round++) {
            x.fault(false);
            x.role(1);
            x.checks(30);
            x.candidate(0);
            x.frame(10);
            x.signal(0);
            x.ahead(8, 2, 0);
            x.struck(1, 3);
            x.locks(2);
            x.from(3, 1);
            x.fits(20, 0);
            x.least(40);
            x.weak();
            Keep.same("questions", deep(x), before);
        }
        Check.due("acts", x.count(13), acts);
        int bits = x.count(11);
        x.undo();
        Check.due("the latest act is undone", x.count(11), bits - 12);
    }

    @Says(at = "T4", value = "Refused calls change nothing, unless it is said.")
    static void refusedCallsChangeNothing() {
        Framer x = busy();
        for (int n = 0; n < 36; n++) {
            x.key(Check.eight("        ", 0));
        }
        Check.due("293 bytes", x.count(14), 293);
        String before = deep(x);
        Check.due("key", x.key(-1L), NONE);
        Check.due("image", x.image(3), false);
        Check.due("again", x.again(0), false);
        Check.due("say", x.say(-1), NONE);
        Check.due("send", x.send(0, 0), NONE);
        Check.due("ahead", x.ahead(0, 0, 0), NONE);
        Check.due("undo of none", Check.made(TOLD).undo(), NONE);
        Keep.same("refused", deep(x), before);
    }

    // ---- promise 11

    @Says(at = "P11", value = "The latest ACT is UNDONE: how many more can be. NONE: none can.")
    static void undo() {
        Framer x = Check.made(TOLD);
        Check.due("of a new one", x.undo(), NONE);
        x.say(1);
        Check.due("the only one", x.undo(), 0);
        Check.due("none is left", x.undo(), NONE);
        Check.due("nothing to say", x.count(15), 0);
        x.say(1);
        x.send(2, 1);
        Check.due("the later", x.undo(), 1);
        x.put(0, true);
        Check.due("what came for it", x.undo(), 1);
        Check.due("the first", x.undo(), 0);
        Check.due("an undo can not be undone", x.undo(), NONE);
        Check.due("bits", x.count(11), 0);
    }

    @Says(at = "P11", value = "The latest ACT is UNDONE")
    static void undoOfHearing() {
        Framer x = Check.made(TOLD);
        Check.append(x, "0000");
        x.hear(4);
        Check.due("heard", x.turn(3), false);
        x.undo();
        Check.due("heard no more", x.turn(3), true);
        Check.due("it hears anew", x.hear(4), 4);
        Check.due("what it hears then", x.from(0, 1), x.receiver(1));
    }

    @Says(at = "P11", value = "The latest ACT is UNDONE")
    static void undoOfSending() {
        Framer x = Check.made("length 4;roles 0 c d 1;poly 1;");
        x.say(0);
        x.send(1, 3);
        int checks = x.checks(0);
        for (int n = 0; n < 9; n++) {
            x.send(1, n);
            x.undo();
        }
        Check.due("the value was begun alone", x.count(15), 1);
        x.send(1, 5);
        Check.due("c of the first", x.bit(20), checks);
        Check.due("the second bit of the value", x.bit(24), 0);
        x.send(8, 5);
        Check.due("its end", x.bit(16 * 9 + 8), 1);
        Check.due("all is said", x.count(15), 0);
    }

    /** Few bits are heard, and undone, and many, and undone: few bits must tell what they told. */
    private static void undone(Framer x, int few, int many) {
        String before = Scenes.told(x);
        x.hear(few);
        String behind = Scenes.told(x);
        x.undo();
        Keep.same("undone", Scenes.told(x), before);
        x.hear(many);
        Check.due("many tell another", Scenes.told(x).equals(before), false);
        x.undo();
        Keep.same("undone, too", Scenes.told(x), before);
        x.hear(few);
        Keep.same("heard again", Scenes.told(x), behind);
    }

    @Says(at = "P11", value = "The latest ACT is UNDONE")
    static void undoOfHearingMuch() {
        Framer x = Scenes.checked();
        x.hear(50);
        undone(x, 10, 60);
        undone(x, 10, 38);
        Framer spoilt = Scenes.ten(0xC1, 0xE5, 0x9A);
        spoilt.turn(48 + 40);
        spoilt.hear(70);
        undone(spoilt, 19, 50);
        Framer taken = Scenes.ten(0xC1, 0xE5, 0x9A);
        taken.hear(116);
        undone(taken, 21, 70);
        undone(taken, 5, 55);
    }

    @Says(at = "P11", value = "The latest ACT is UNDONE")
    static void undoOfTheStore() {
        for (int many = 19; many < 57; many += 5) {
            Framer slow = Scenes.slow();
            slow.hear(138);
            undone(slow, 1, many);
            slow.hear(4);
            undone(slow, 1, many);
            undone(slow, 5, many);
            Framer fast = Scenes.fast();
            fast.hear(22);
            undone(fast, 1, many);
            undone(fast, 19, many);
        }
    }

    @Says(at = "P11", value = "The latest ACT is UNDONE")
    static void undoOfTheLastCandidate() {
        Framer x = Check.made("length 4;roles 0 1;least 3;");
        Check.append(x, "0000 1000");
        x.hear(7);
        x.hear(1);
        Check.due("one is left", x.candidate(0), 0);
        x.undo();
        Check.due("two are", x.receiver(1), 2);
        x.turn(7);
        Check.append(x, "1000");
        x.hear(2);
        Check.due("the other one is left", x.candidate(0), 5);
        x.hear(2);
        Check.due("two of three were heard by it", x.receiver(0), 0);
        x.hear(1);
        Check.receiver("locked", x, 2, 1, 1, 0, 1, 0, 1, 0);
    }

    @Says(at = "P11", value = "The latest ACT is UNDONE")
    static void undoOfValues() {
        Framer x = Check.made(Scenes.TEN);
        x.say(0xAA);
        x.say(0x55);
        x.image(0);
        x.say(0xF0);
        x.undo();
        x.say(0x0F);
        x.send(2, 1);
        x.undo();
        Check.due("all are to be said again", x.count(15), 3);
        x.send(3, 1);
        values(x, 0xAA, 0x55, 0x0F);
        x.again(0);
        Check.due("two were kept", x.count(15), 2);
        x.send(3, 1);
        values(x, 0xAA, 0x55);
    }

    private static void values(Framer x, int... values) {
        for (int n = 0; n < values.length; n++) {
            int sent = 0;
            for (int f = 2; f <= 9; f++) {
                sent = 2 * sent + x.bit(48 * n + 4 * f);
            }
            Check.due("value " + n, sent, values[n]);
        }
    }

    // ---- promise 28

    @Says(at = "P28", value = "is kept as k, 0 to 2: true; false for another k.")
    static void imagesZeroToTwo() {
        Framer x = Check.made(TOLD);
        for (int k : new int[] {-1, 3, 4, MIN, MAX}) {
            Check.due("image " + k, x.image(k), false);
            Check.due("again " + k, x.again(k), false);
        }
        for (int k = 0; k < 3; k++) {
            x.put(0, true);
            Check.due("image " + k, x.image(k), true);
        }
        for (int k = 2; k >= 0; k--) {
            Check.due("again " + k, x.again(k), true);
            Check.due("bits by " + k, x.count(11), k + 1);
        }
    }

    @Says(at = "P28", value = "All that there is (THE TEXT, the FAULT, too, but for what can be UNDONE) is kept as k")
    static void allIsKept() {
        Framer x = busy();
        String before = deep(x);
        int ahead = x.ahead(8, 6, 16);
        x.image(1);
        Check.due("what can be undone stays", x.count(13), 6);
        x.say(1);
        x.send(8, 1);
        x.turn(61);
        x.hear(40);
        Check.type(x, " 6;length 5;");
        Check.due("another scheme", x.scheme(), 30);
        Check.due("again", x.again(1), true);
        Keep.same("all", deep(x), before);
        Check.due("the text", x.count(14), 5);
        Check.due("the fault", x.fault(false), 2);
        Check.due("its place", x.fault(true), 5);
        Check.due("what would be", x.ahead(8, 6, 16), ahead);
        x.key(Check.eight(" 2;", 0));
        Check.due("the text is read on", x.scheme(), 48);
        Check.due("width", x.count(3), 2);
    }

    /** As undone(), by an image. */
    private static void kept(Framer x, int few, int many) {
        String before = Scenes.told(x);
        x.image(2);
        x.hear(few);
        String behind = Scenes.told(x);
        x.hear(many);
        x.again(2);
        Keep.same("kept", Scenes.told(x), before);
        x.hear(few);
        Keep.same("heard again", Scenes.told(x), behind);
        x.again(2);
        x.turn(x.count(11) - 1);
        Keep.same("kept still", Scenes.told(x), before);
    }

    @Says(at = "P28", value = "All that there is")
    static void allOfTheReceiverIsKept() {
        Framer x = Scenes.checked();
        x.hear(50);
        kept(x, 10, 50);
        Framer taken = Scenes.ten(1, 2, 3);
        taken.turn(48 + 40);
        taken.hear(70);
        kept(taken, 19, 80);
        Framer slow = Scenes.slow();
        slow.hear(143);
        kept(slow, 1, 30);
        Framer fast = Scenes.fast();
        fast.hear(22);
        kept(fast, 1, 90);
    }

    @Says(at = "P28", value = "is kept as k")
    static void imagesAreNotTouched() {
        Framer x = Check.made(TOLD);
        Check.append(x, "01");
        x.image(0);
        x.turn(0);
        x.turn(1);
        x.image(1);
        x.hear(2);
        x.undo();
        x.undo();
        Check.due("again 0", x.again(0), true);
        Keep.same("as it was kept", Check.line(x), "01");
        x.turn(0);
        Check.due("again 0", x.again(0), true);
        Keep.same("as it was kept, still", Check.line(x), "01");
        Check.due("again 1", x.again(1), true);
        Keep.same("the other", Check.line(x), "10");
        x.image(0);
        x.turn(1);
        Check.due("again 0", x.again(0), true);
        Keep.same("a later one takes its place", Check.line(x), "10");
        Check.due("none was kept as 2", x.again(2), false);
    }

    // ---- promise 29

    @Says(at = "P29", value = "All is as it was kept as k: true; false if there is none such.")
    static void againOfNone() {
        Framer x = busy();
        String before = deep(x);
        for (int k : new int[] {0, 1, 2, 3, -1, MIN, MAX}) {
            Check.due("again " + k, x.again(k), false);
        }
        Keep.same("nothing changed", deep(x), before);
        x.image(2);
        Check.due("none as 0", x.again(0), false);
        Check.due("none as 1", x.again(1), false);
        x.scheme();
        x.scheme();
        Check.due("as 2", x.again(2), true);
        Keep.same("as it was kept", deep(x), before);
    }
}
