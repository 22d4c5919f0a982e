import java.util.NoSuchElementException;

/** Each promise by answers that were worked out by hand: what is usual, the edges, wrong inputs. */
public final class PromiseTest {
    private static final int NONE = TrunkFramer.NONE;
    private static final int MIN = Integer.MIN_VALUE;
    private static final int MAX = Integer.MAX_VALUE;
    /** 8 bits a superframe; what stands behind it locks in 8 bits. */
    private static final String SMALL = "length 4;roles 0 1;least 2;";
    private static final String SMALL_BITS = "0000 1000";
    private static final String CHECKED = "length 4;roles 0 1 c;poly 1;least 2;";
    private static final String CHECKED_BITS = "0000 1000 0000";
    private static final String LINKED = "length 4;roles 0 1 d;least 2;";
    private static final String LINKED_BITS = "0000 1000 1000";
    /** Bits of role 0 or 1 at 0 and 96 of 288. */
    private static final String WIDE = "length 24;roles 0ddd1ddddddd;least 2;wrong 2 4;";

    private PromiseTest() {
    }

    public static void main(String[] args) {
        promise1();
        promise2();
        promise3();
        promise3Stays();
        promise4();
        promise4Impossible();
        promise5();
        promise6();
        promise6ChecksAndLink();
        promise7();
        promise8();
        promise9();
        promise10();
        promise11();
        promise11Stays();
        promise12();
        promise13();
        promise14();
        promise15();
        promise16Hunts();
        promise16Verifies();
        promise16Lost();
        promise16Store();
        promise16Link();
        promise16BadChecks();
        promise17();
        promise18();
        promise19();
        promise20();
        promise21();
        promise22();
        promise23and24();
        promise25and26();
        promise27();
        promise27Edges();
        promise28and29();
        promise28and29Store();
        promise28and29Checks();
        Check.end("PromiseTest");
    }

    private static void due(String call, long got, long want) {
        Check.due(call, got, want);
    }

    /** What there is, of the line its ends; within fewer calls than an object has. */
    private static String state(Framer x) {
        StringBuilder b = new StringBuilder(ends(x));
        for (int w = 0; w < 16; w++) {
            b.append(' ').append(x.count(w));
        }
        for (int w = 0; w < 18; w++) {
            b.append(' ').append(x.receiver(w));
        }
        b.append(' ').append(x.fault(false)).append(' ').append(x.fault(true));
        return b.append(' ').append(x.frame(0)).append(' ').append(x.value(0)).toString();
    }

    private static String ends(Framer x) {
        int size = x.count(11);
        StringBuilder b = new StringBuilder();
        for (int i = 0; i < 16; i++) {
            b.append(x.bit(i)).append(x.bit(size - 1 - i));
        }
        return b.append(' ').append(x.from(0, 7)).toString();
    }

    private static void promise1() {
        Framer x = new Framer();
        int[] counts = {8, 6, 0, 7, 0, 4, 2, 4, 0, 1, 0, 0, 0, 0, 0, 0};
        for (int w = 0; w < counts.length; w++) {
            due("new: count(" + w + ")", x.count(w), counts[w]);
        }
        int[] roles = {0, 0, 1, 0, 1, 1};
        for (int f = 0; f < roles.length; f++) {
            due("new: role(" + f + ")", x.role(f), roles[f]);
        }
        Check.receiver("new", x, 0, 48, 1, 0, 0, 0, NONE, 0, 0, 0, 0, 0, 0, 0, 0, 0, 0, 0);
        due("NONE", TrunkFramer.NONE, -1);
        due("new: fault", x.fault(false), 0);
        due("new: its place", x.fault(true), NONE);
        Check.due("new: again(0)", x.again(0), false);
    }

    private static void promise2() {
        Framer x = new Framer();
        due("key(0)", x.key(0L), 0);
        due("a zero first", x.key(0x0061626364656667L), 0);
        due("a zero within", x.key(0x2020200061626364L), 3);
        due("all eight", x.key(0x2020202020202020L), 11);
        for (int n = 19; n <= 299; n += 8) {
            due("key to " + n, x.key(0x2020202020202020L), n);
        }
        due("two too many", x.key(0x2020000000000000L), NONE);
        due("they did not come", x.count(14), 299);
        due("the last", x.key(0x2000000000000000L), 300);
        due("nothing more", x.key(0L), 300);
        due("one too many", x.key(0x2000000000000000L), NONE);
        due("300 blanks are a text", x.scheme(), 48);
        due("it is empty then", x.count(14), 0);
        due("a byte over 127", x.key(0xFF80FF80FF80FF80L), 8);
        due("begins none", x.scheme(), NONE);
        due("at the first", x.fault(true), 0);
    }

    private static void promise3() {
        String all = "length 24;roles 01cc d0\n1;poly 63;width 8;stolen 12;least 24;wrong 4 8;drift 50;";
        Framer x = Check.made(all);
        int[] counts = {24, 7, 63, 8, 12, 24, 4, 8, 50, 2, 2};
        for (int w = 0; w < counts.length; w++) {
            due(all + " count(" + w + ")", x.count(w), counts[w]);
        }
        int[] roles = {0, 1, 2, 2, 3, 0, 1};
        for (int f = 0; f < roles.length; f++) {
            due(all + " role(" + f + ")", x.role(f), roles[f]);
        }
        Check.type(x, "lag 50;drift 7;length 4;length5;roles 01d;lag 003;width 1;");
        due("later ones strike", x.scheme(), 15);
        due("drift", x.count(8), -3);
        due("the others as at first", x.count(5), 4);
        due("channels", x.count(9), 4);
        due("candidates", x.receiver(1), 15);
        due("an empty text", x.scheme(), 48);
        due("as at first", x.count(8), 0);
        Check.type(x, "roles 1 1 c 1;");
        due("roles told", x.scheme(), 32);
        x.scheme();
        int[] first = {0, 0, 1, 0, 1, 1};
        for (int f = 0; f < first.length; f++) {
            due("as at first role(" + f + ")", x.role(f), first[f]);
        }
        Framer y = Check.made(LINKED);
        Check.append(y, LINKED_BITS);
        y.say(9);
        y.hear(12);
        due("locked", y.receiver(0), 2);
        Check.type(y, LINKED);
        due("told anew", y.scheme(), 12);
        Check.receiver("told anew", y, 0, 12, 1, 0, 0, 0, NONE, 0, 0, 0, 0, 0, 0, 0, 0, 0, 0, 0);
        due("the line is empty", y.count(11), 0);
        due("nothing heard", y.count(12), 0);
        due("nothing to undo", y.undo(), NONE);
        due("what is to be said is not spoken of: it stays", y.count(15), 1);
    }

    private static void promise3Stays() {
        Framer x = Check.made(CHECKED);
        x.say(1);
        x.send(3, 5);
        x.hear(20);
        Check.type(x, "length 3;");
        due("a fault", x.scheme(), NONE);
        due("the text is empty", x.count(14), 0);
        due("the line stays", x.count(11), 36);
        due("heard stays", x.count(12), 20);
        due("the scheme stays", x.count(0), 4);
        due("acts stay", x.count(13), 3);
        due("undo", x.undo(), 2);
        due("it undid hear", x.count(12), 0);
        due("the fault stays", x.fault(false), 2);
        Framer y = Check.made(CHECKED);
        y.send(1, 3);
        String c = "" + y.bit(8);
        y.scheme();
        Check.type(y, CHECKED);
        y.scheme();
        y.send(1, 3);
        due("checks of none sent since are 0", y.bit(8), 0);
        Keep.same("the first superframe's c", c, "0");
    }

    private static void promise4() {
        Check.fault("", 0, NONE);
        Check.fault(" \n ", 0, NONE);
        Check.fault("length8;roles0 1cd;", 0, NONE);
        Check.fault(";", 1, 0);
        Check.fault("8;", 1, 0);
        Check.fault("lengths 8;", 1, 0);
        Check.fault("Length 8;", 1, 0);
        Check.fault(" \tlength 8;", 1, 1);
        Check.fault("length", 1, 6);
        Check.fault("length \n", 1, 8);
        Check.fault("length ;", 1, 7);
        Check.fault("length x;", 1, 7);
        Check.fault("length 8", 1, 8);
        Check.fault("length 8 8;", 1, 9);
        Check.fault("length 8;;", 1, 9);
        Check.fault("length 8;poly", 1, 13);
        Check.fault("length 8,poly 1;", 1, 8);
        Check.fault("poly 123456789012;", 2, 5);
        Check.fault("poly 1234567890123;", 1, 5);
        Check.fault("poly 1 1234567890123;", 1, 7);
        Check.fault("wrong 2;", 1, 7);
        Check.fault("wrong 2 4 4;", 1, 10);
        Check.fault("wrong 24;", 1, 8);
        Check.fault("roles;", 1, 5);
        Check.fault("roles ", 1, 6);
        Check.fault("roles 01", 1, 8);
        Check.fault("roles 01 012;", 1, 9);
        Check.fault("roles 01 cx;", 1, 9);
        Check.fault("roles 01 length 8;", 1, 9);
        Check.fault("roles 01 0000000000000;", 1, 9);
        Check.fault("length 3;poly 64;lengt 4;", 1, 17);
        Check.fault("length 3;poly 64;", 2, 7);
        Check.fault("roles 0c;poly 64;", 2, 0);
        Framer x = new Framer();
        Check.type(x, "x");
        x.scheme();
        due("its fault", x.fault(false), 1);
        x.scheme();
        due("none by the next", x.fault(false), 0);
        due("no place by the next", x.fault(true), NONE);
    }

    private static void promise4Impossible() {
        String[] names = {"length", "poly", "width", "stolen", "least", "drift", "lag"};
        int[] lowest = {4, 0, 1, 0, 2, 0, 0};
        int[] highest = {24, 63, 8, 12, 24, 50, 50};
        for (int i = 0; i < names.length; i++) {
            Check.fault(names[i] + " " + lowest[i] + ";", 0, NONE);
            Check.fault(names[i] + " " + highest[i] + ";", 0, NONE);
            Check.fault(names[i] + " " + (highest[i] + 1) + ";", 2, names[i].length() + 1);
            Check.fault(names[i] + " 0004;", 2, names[i].length() + 1);
            Check.fault(names[i] + " 004;", 0, NONE);
            if (lowest[i] > 0) {
                Check.fault(names[i] + " " + (lowest[i] - 1) + ";", 2, names[i].length() + 1);
            }
        }
        Check.fault("wrong 0 4;", 2, 6);
        Check.fault("wrong 5 8;", 2, 6);
        Check.fault("wrong 1 1;", 0, NONE);
        Check.fault("wrong 4 4;", 0, NONE);
        Check.fault("wrong 4 8;", 0, NONE);
        Check.fault("wrong 4 3;", 2, 8);
        Check.fault("wrong 4 9;", 2, 8);
        Check.fault("wrong 1 0008;", 2, 8);
        Check.fault("roles 0;", 2, 0);
        Check.fault(" roles 0 ccc ddd;", 2, 1);
        Check.fault("roles 01 dddddddddd;", 0, NONE);
        Check.fault("roles 01 ddddddddddd;", 2, 0);
        Check.fault("roles 01 cccccc;", 0, NONE);
        Check.fault("roles 01 ccccccc;", 2, 0);
        Check.fault("roles 00;", 0, NONE);
        Check.fault("roles cccdddc;", 2, 0);
        Check.fault("length 3;length 8;", 2, 7);
    }

    private static void promise5() {
        Framer x = Check.made(LINKED);
        due("say(-1)", x.say(-1), NONE);
        due("say(256)", x.say(256), NONE);
        due("say(MIN)", x.say(MIN), NONE);
        due("no act", x.count(13), 0);
        for (int n = 1; n <= 8; n++) {
            due("say " + n, x.say(n == 1 ? 0 : 255), n);
        }
        due("a ninth", x.say(1), NONE);
        x.send(8, 1);
        x.send(1, 1);
        due("the first is at its end but for one bit", x.count(15), 8);
        due("there is no room yet", x.say(1), NONE);
        x.send(1, 1);
        due("the first is at its end", x.count(15), 7);
        due("room for one", x.say(1), 8);
    }

    private static void promise6() {
        Framer x = Check.made("length 24;roles 0 1 0 1 0 1 0 1 0 1 0 1;");
        due("send(0)", x.send(0, 1), NONE);
        due("send(-1)", x.send(-1, 1), NONE);
        due("send(9)", x.send(9, 1), NONE);
        due("send(MAX)", x.send(MAX, 1), NONE);
        due("send(MIN)", x.send(MIN, 1), NONE);
        due("send(8)", x.send(8, 1), 2304);
        due("too many", x.send(6, 1), NONE);
        due("send(5)", x.send(5, 1), 3744);
        due("too many", x.send(1, 1), NONE);
        due("two acts", x.count(13), 2);
        Framer y = Check.made("length 20;roles 0 1;");
        for (int n = 320; n <= 3840; n += 320) {
            y.send(8, n);
        }
        due("exactly 4000", y.send(4, 1), 4000);
        Framer z = Check.made("length 4;roles 1 0;");
        z.send(2, -7);
        int seed = -7;
        for (int i = 0; i < 16; i++) {
            int want = i % 8 == 0 ? 1 : 0;
            if (i % 4 != 0) {
                seed = seed * 1103515245 + 12345;
                want = seed >>> 16 & 1;
            }
            due("sent bit " + i, z.bit(i), want);
        }
        String first = Check.line(z);
        z.send(2, -7);
        Keep.same("the same seed", Check.line(z), first + first);
    }

    private static void promise6ChecksAndLink() {
        Framer x = Check.made("length 4;roles 0 c 1 d c;poly 2;least 2;");
        x.say(0x53);
        x.send(8, 4);
        due("the first c", x.bit(4), 0);
        due("the second c", x.bit(16), 0);
        x.lose(0, 1);
        x.put(0, true);
        x.turn(1);
        x.undo();
        x.undo();
        x.undo();
        for (int s = 1; s < 8; s++) {
            int checks = x.checks(20 * (s - 1));
            due("the first c of " + s, x.bit(20 * s + 4), checks >> 1);
            due("the second c of " + s, x.bit(20 * s + 16), checks & 1);
        }
        int last = x.checks(140);
        x.turn(142);
        x.send(2, 9);
        due("c of what was sent, not of what the line is", x.bit(164), last >> 1);
        due("its second", x.bit(176), last & 1);
        int[] link = {0, 0, 1, 0, 1, 0, 0, 1, 1, 1};
        for (int s = 0; s < link.length; s++) {
            due("d of " + s, x.bit(20 * s + 12), link[s]);
        }
        x.send(1, 9);
        due("d when there is nothing to say", x.bit(212), 1);
    }

    private static void promise7() {
        Framer x = Check.made(SMALL);
        Check.due("turn(0) of an empty line", x.turn(0), false);
        Check.append(x, "0101");
        x.hear(2);
        int acts = x.count(13);
        Check.due("heard", x.turn(1), false);
        Check.due("turn(-1)", x.turn(-1), false);
        Check.due("turn(4)", x.turn(4), false);
        Check.due("turn(MAX)", x.turn(MAX), false);
        Check.due("turn(MIN)", x.turn(MIN), false);
        due("no acts", x.count(13), acts);
        Check.due("turn(2)", x.turn(2), true);
        Check.due("turn(3)", x.turn(3), true);
        Keep.same("turned", Check.line(x), "0110");
    }

    private static void promise8() {
        Framer x = Check.made(SMALL);
        Check.append(x, "0110 1001");
        x.hear(2);
        due("heard", x.lose(1, 1), NONE);
        due("lose(-1, 1)", x.lose(-1, 1), NONE);
        due("lose(2, 0)", x.lose(2, 0), NONE);
        due("lose(2, -1)", x.lose(2, -1), NONE);
        due("lose(2, MIN)", x.lose(2, MIN), NONE);
        due("lose(2, MAX)", x.lose(2, MAX), NONE);
        due("lose(2, 7)", x.lose(2, 7), NONE);
        due("lose(8, 1)", x.lose(8, 1), NONE);
        due("lose(MAX, 500)", x.lose(MAX, 500), NONE);
        due("lose(MIN, 500)", x.lose(MIN, 500), NONE);
        Keep.same("nothing is lost", Check.line(x), "01101001");
        due("lose(3, 2)", x.lose(3, 2), 6);
        Keep.same("two are lost", Check.line(x), "011001");
        due("lose(2, 4)", x.lose(2, 4), 2);
        Framer y = new Framer();
        y.send(8, 1);
        y.send(8, 1);
        due("501", y.lose(0, 501), NONE);
        due("500", y.lose(0, 500), 268);
        Framer z = Check.made("length 20;roles 0 1;");
        for (int n = 0; n < 12; n++) {
            z.send(8, n);
        }
        z.send(4, 1);
        int first = z.bit(3499);
        int last = z.bit(3999);
        due("of a full line", z.lose(3500, 499), 3501);
        due("what stood ahead of them", z.bit(3499), first);
        due("what stood behind them", z.bit(3500), last);
        due("to its end", z.lose(3001, 500), 3001);
    }

    private static void promise9() {
        Framer x = Check.made(SMALL);
        due("put(1)", x.put(1, true), NONE);
        due("put(-1)", x.put(-1, true), NONE);
        due("put(0)", x.put(0, true), 1);
        due("ahead of it", x.put(0, false), 2);
        due("behind all", x.put(2, false), 3);
        due("between", x.put(2, true), 4);
        Keep.same("put", Check.line(x), "0110");
        x.hear(2);
        due("heard", x.put(1, true), NONE);
        due("put(MAX)", x.put(MAX, true), NONE);
        due("put(MIN)", x.put(MIN, true), NONE);
        due("at the first not heard", x.put(2, false), 5);
        Keep.same("put behind what is heard", Check.line(x), "01010");
        Framer y = Check.made("length 20;roles 0 1;");
        for (int n = 0; n < 12; n++) {
            y.send(8, n);
        }
        y.send(3, 1);
        y.lose(0, 1);
        y.send(1, 1);
        due("3999", y.count(11), 3999);
        due("the 4000th", y.put(0, true), 4000);
        due("there are 4000", y.put(0, true), NONE);
        due("behind all, too", y.put(4000, true), NONE);
    }

    private static void promise10() {
        Framer x = Check.made(SMALL);
        due("an empty line", x.hear(1), NONE);
        Check.append(x, "01011");
        due("hear(0)", x.hear(0), NONE);
        due("hear(-1)", x.hear(-1), NONE);
        due("hear(MIN)", x.hear(MIN), NONE);
        due("hear(MAX)", x.hear(MAX), NONE);
        due("hear(6)", x.hear(6), NONE);
        due("hear(2)", x.hear(2), 2);
        due("heard", x.receiver(7) > 0 ? x.count(12) : 0, 2);
        due("hear(4)", x.hear(4), NONE);
        due("hear(3)", x.hear(3), 5);
        due("hear(1)", x.hear(1), NONE);
        Framer y = Check.made("length 20;roles 0 1;");
        for (int n = 0; n < 12; n++) {
            y.send(8, n);
        }
        y.send(4, 1);
        due("4001", y.hear(4001), NONE);
        due("4000", y.hear(4000), 4000);
    }

    private static void promise11() {
        Framer x = Check.made(LINKED);
        due("nothing to undo", x.undo(), NONE);
        Check.append(x, LINKED_BITS);
        String[] states = new String[8];
        for (int a = 0; a < 7; a++) {
            states[a] = withoutActs(x);
            switch (a) {
                case 0: x.say(3); break;
                case 1: x.send(8, 7); break;
                case 2: x.turn(20); break;
                case 3: x.lose(30, 5); break;
                case 4: x.put(50, true); break;
                case 5: x.hear(60); break;
                default: x.hear(20);
            }
        }
        x.say(-1);
        x.send(0, 0);
        x.turn(-1);
        x.lose(-1, 1);
        x.put(-1, true);
        x.hear(0);
        due("six can be", x.count(13), 6);
        for (int a = 6; a >= 1; a--) {
            due("undo of act " + a, x.undo(), a - 1);
            Keep.same("undo of act " + a, withoutActs(x), states[a]);
        }
        due("the latest 6 alone", x.undo(), NONE);
        Keep.same("a refused undo", withoutActs(x), states[1]);
        due("what was said before stays", x.count(15), 1);
        x.send(8, 7);
        x.send(2, 7);
        due("the link goes on", x.count(15), 0);
        due("two can be", x.count(13), 2);
        x.undo();
        due("a value half sent", x.count(15), 1);
        x.send(2, 1);
        due("is sent to its end", x.count(15), 0);
    }

    private static String withoutActs(Framer x) {
        StringBuilder b = new StringBuilder();
        for (int i : new int[] {19, 20, 30, 31, 32, 50, 51}) {
            b.append(x.bit(i));
        }
        for (int w : new int[] {11, 12, 15}) {
            b.append(' ').append(x.count(w));
        }
        for (int w : new int[] {0, 2, 6, 7, 10, 12, 15}) {
            b.append(' ').append(x.receiver(w));
        }
        return b.append(' ').append(x.frame(0)).append(' ').append(x.ahead(2, 8, 9)).toString();
    }

    private static void promise11Stays() {
        Framer x = Check.made(CHECKED);
        x.send(1, 2);
        int checks = x.checks(0);
        x.send(1, 3);
        int c = x.bit(20);
        due("c of the first", c, checks);
        x.undo();
        x.send(1, 77);
        due("after undo again c of the first", x.bit(20), checks);
        Check.type(x, "poly");
        x.undo();
        due("the text stays", x.count(14), 4);
        x.scheme();
        x.undo();
        due("the fault stays", x.fault(true), 4);
        due("all is undone", x.count(11), 0);
    }

    private static void promise12() {
        Framer x = Check.made("length 9;width 3;wrong 1 3;");
        due("channels as many as there is room for", x.count(9), 2);
        due("count(16)", x.count(16), -1000);
        due("count(-1)", x.count(-1), -1000);
        due("count(MIN)", x.count(MIN), -1000);
        due("count(MAX)", x.count(MAX), -1000);
        due("count(6)", x.count(6), 1);
        due("count(7)", x.count(7), 3);
        Check.type(x, "abc");
        due("count(14)", x.count(14), 3);
        x.send(1, 1);
        x.hear(5);
        due("count(11)", x.count(11), 54);
        due("count(12)", x.count(12), 5);
        due("count(13)", x.count(13), 2);
        x.say(1);
        due("count(15)", x.count(15), 1);
    }

    private static void promise13() {
        Framer x = Check.made("roles d10c;");
        int[] roles = {3, 1, 0, 2};
        for (int f = 0; f < 4; f++) {
            due("role(" + f + ")", x.role(f), roles[f]);
        }
        for (int f : new int[] {-1, 4, 12, MAX, MIN}) {
            boolean thrown = false;
            try {
                x.role(f);
            } catch (NoSuchElementException e) {
                thrown = true;
            }
            Check.due("role(" + f + ") throws", thrown, true);
        }
    }

    private static void promise14() {
        Framer x = Check.made(SMALL);
        due("bit(0) of none", x.bit(0), NONE);
        Check.append(x, "10");
        due("bit(0)", x.bit(0), 1);
        due("bit(1)", x.bit(1), 0);
        due("bit(2)", x.bit(2), NONE);
        due("bit(-1)", x.bit(-1), NONE);
        due("bit(MAX)", x.bit(MAX), NONE);
        due("bit(MIN)", x.bit(MIN), NONE);
    }

    private static void promise15() {
        Framer x = Check.made("length 4;roles 0 1 c c;poly 3;least 2;");
        Check.append(x, "0000 0000 0000 000");
        due("not so many", x.checks(0), NONE);
        Check.append(x, "00");
        due("checks(0)", x.checks(0), 2);
        due("checks(1)", x.checks(1), 2);
        due("checks(2)", x.checks(2), NONE);
        due("checks(-1)", x.checks(-1), NONE);
        due("checks(MAX)", x.checks(MAX), NONE);
        due("checks(MIN)", x.checks(MIN), NONE);
        x.turn(8);
        x.turn(12);
        due("c are taken for 1", x.checks(0), 2);
        x.turn(15);
        due("the last bit", x.checks(0), 1);
        Framer y = Check.made("length 4;roles 0 1 c c;poly 63;least 2;");
        Check.append(y, "0000 0000 0000 0000");
        due("poly's lowest two", y.checks(0), 2);
        Framer w = Check.made("length 4;roles c 0 1;poly 1;least 2;");
        Check.append(w, "0000 0000 0000");
        due("c first", w.checks(0), 1);
        w.turn(0);
        due("c first, turned", w.checks(0), 1);
        w.turn(4);
        due("another turned", w.checks(0), 0);
        Framer z = Check.made(SMALL);
        Check.append(z, "1111 1111");
        due("no checks", z.checks(0), 0);
        due("no checks of none", z.checks(1), NONE);
    }

    private static void promise16Hunts() {
        Framer x = Check.made(SMALL);
        Check.append(x, SMALL_BITS);
        int[] left = {7, 6, 5, 4, 4, 3, 2};
        for (int i = 0; i < 7; i++) {
            x.hear(1);
            Check.receiver("hunting " + i, x, 0, left[i], 1, 0, 0, 0, NONE, i + 1, 0);
        }
        x.hear(1);
        Check.receiver("locked", x, 2, 1, 1, 0, 1, 0, 0, 0, 0);
        due("receiver(18)", x.receiver(18), NONE);
        due("receiver(-1)", x.receiver(-1), NONE);
        due("receiver(MAX)", x.receiver(MAX), NONE);
        due("receiver(MIN)", x.receiver(MIN), NONE);
        Framer y = Check.made("length 4;roles 0 1;least 3;");
        Check.append(y, SMALL_BITS + "0");
        y.hear(8);
        Check.receiver("one left, too few heard by it", y, 0, 1, 1, 0, 0, 0, NONE, 8);
        y.hear(1);
        Check.receiver("three heard", y, 2, 1, 1, 0, 1, 0, 1, 0);
        Framer z = Check.made(SMALL);
        Check.append(z, "1111 1111 0");
        z.hear(7);
        Check.receiver("ones", z, 0, 1, 1);
        z.hear(1);
        Check.receiver("none is left", z, 0, 8, 2, 0, 0, 0, NONE, 0);
        z.hear(1);
        Check.receiver("the next is the first", z, 0, 7, 2, 0, 0, 0, NONE, 1);
    }

    private static void promise16Verifies() {
        Framer x = Check.made(CHECKED);
        Check.append(x, CHECKED_BITS + CHECKED_BITS + CHECKED_BITS);
        x.hear(12);
        Check.receiver("verifies", x, 1, 1, 1, 0, 0, 0, 0, 0, 0);
        x.hear(23);
        Check.receiver("still", x, 1, 1, 1, 0, 0, 0, 11, 23, 0);
        x.image(0);
        x.hear(1);
        Check.receiver("its checks hold", x, 2, 1, 1, 0, 1, 0, 0, 0, 0);
        x.again(0);
        x.lose(35, 1);
        x.put(35, true);
        x.hear(1);
        Check.receiver("a bit that is no check of its own", x, 2, 1, 1, 0, 1);
        Framer y = Check.made(CHECKED);
        Check.append(y, CHECKED_BITS + CHECKED_BITS + CHECKED_BITS + "0");
        y.turn(32);
        y.hear(36);
        Check.receiver("a mimic", y, 0, 12, 2, 1, 0, 0, NONE, 0, 0, 0);
        y.hear(1);
        due("it hunts from the next", y.receiver(7), 1);
        Framer z = Check.made(CHECKED);
        Check.append(z, CHECKED_BITS + CHECKED_BITS + "0");
        z.turn(16);
        z.hear(16);
        due("verifies", z.receiver(0), 1);
        z.hear(1);
        Check.receiver("a wrong bit", z, 0, 12, 2, 0, 0, 0, NONE, 0);
    }

    private static void promise16Lost() {
        Framer x = Check.made("length 4;roles 0 1;least 2;wrong 2 3;");
        Check.append(x, SMALL_BITS + "1000 1000 0000 0000 1");
        x.hear(8);
        x.hear(1);
        due("one wrong", x.receiver(8), 1);
        x.hear(8);
        due("still of the latest three", x.receiver(8), 1);
        x.hear(3);
        due("still", x.receiver(0), 2);
        x.hear(1);
        Check.receiver("the first wrong one is not of the latest three", x, 2, 1, 1, 0, 1, 0, 5, 13, 1);
        x.hear(3);
        x.hear(1);
        Check.receiver("two of three", x, 0, 8, 2, 0, 1, 1, NONE, 0, 0);
        Framer y = Check.made("length 4;roles 0 1;least 2;wrong 1 1;");
        Check.append(y, SMALL_BITS + "1" + SMALL_BITS + "1");
        y.hear(9);
        Check.receiver("one of one", y, 0, 8, 2, 0, 1, 1, NONE, 0, 0);
        y.hear(8);
        Check.receiver("locked again", y, 2, 1, 2, 0, 2, 1, 0, 0, 0);
        y.hear(1);
        Check.receiver("lost again", y, 0, 8, 3, 0, 2, 2, NONE, 0, 0);
    }

    private static void promise16Store() {
        Framer x = Check.made(SMALL + "drift 50;");
        Check.append(x, SMALL_BITS + SMALL_BITS);
        x.hear(3);
        due("clock", x.receiver(15), 3150);
        x.hear(1);
        due("it takes 4000 off", x.receiver(15), 200);
        due("nothing was read", x.receiver(12), 0);
        due("so nothing again", x.receiver(13), 0);
        x.hear(7);
        due("ahead of the third", x.receiver(15), 3550);
        x.hear(1);
        Check.receiver("what it brings comes first", x, 2, 1, 1, 0, 1, 0, 4, 4, 0, 0, 1, 0, 1, 0, 0, 600);
        Framer fast = Check.made("length 4;roles 0 1;least 2;drift 50;");
        Check.append(fast, SMALL_BITS);
        for (int i = 0; i < 10; i++) {
            Check.append(fast, SMALL_BITS);
        }
        fast.hear(88);
        // 88 * 1050 = 23 * 4000 + 400: 23 reads, the first two while nothing had come.
        Check.receiver("the other clock is fast", fast, 2, 1, 1, 0, 1, 0, 0, 80, 0, 0, 20, 0, 20, 1, 0, 400);
        Framer slow = Check.made("length 4;roles 0 1;least 2;lag 50;");
        for (int i = 0; i < 46; i++) {
            Check.append(slow, SMALL_BITS);
        }
        slow.hear(143);
        // 143 * 950 = 33 * 4000 + 3850: 33 reads, 2 while nothing had come.
        Check.receiver("the other clock is slow", slow, 2, 1, 1, 0, 1, 0, 7, 135, 0, 0, 33, 0, 31, 0, 2, 3850);
        slow.hear(1);
        // The 34th frame comes ahead of the 34th read: the older of two is dropped for it.
        Check.receiver("a third", slow, 2, 1, 1, 0, 1, 0, 0, 136, 0, 0, 34, 1, 32, 0, 1, 800);
        due("frame 31 was dropped", slow.frame(0), 32);
    }

    private static void promise16Link() {
        Framer x = Check.made(LINKED);
        Check.append(x, LINKED_BITS);
        x.hear(12);
        due("locked", x.receiver(0), 2);
        link(x, "1 0 10100101");
        due("not yet", x.receiver(16), 0);
        link(x, "1");
        due("taken", x.receiver(16), 1);
        due("its value", x.value(0), 0xA5);
        link(x, "0 11111111 0 1 1");
        due("spoilt", x.receiver(17), 1);
        due("taken stays", x.receiver(16), 1);
        due("the value stays", x.value(0), 0xA5);
        due("no other", x.value(1), NONE);
    }

    /** Superframes with these bits of d come and are heard. */
    private static void link(Framer x, String bits) {
        for (char b : bits.toCharArray()) {
            if (b != ' ') {
                Check.append(x, "0000 1000 " + b + "000");
                x.hear(12);
            }
        }
    }

    private static void promise16BadChecks() {
        Framer x = Check.made("length 4;roles 0 1 c c c;poly 3;least 2;");
        Check.append(x, "0000 1000 0000 0000 0000");
        x.hear(20);
        for (int n = 0; n < 3 && x.receiver(0) != 1; n++) {
            Check.append(x, "0000 1000 0000 0000 0000");
            x.hear(20);
        }
        due("verifies", x.receiver(0), 1);
        int checks = x.checks(x.count(11) - 20);
        String right = "0000 1000 " + (checks >> 2) + "000 " + (checks >> 1 & 1) + "000 " + (checks & 1) + "000";
        String bad = "0000 1000 " + (1 - (checks >> 2)) + "000 " + (1 - (checks >> 1 & 1)) + "000 " + (checks & 1) + "000";
        Check.append(x, right + right);
        x.hear(40);
        Check.receiver("locked at the end", x, 2, 1, x.receiver(2), 0, 1, 0, 0, 0);
        Check.append(x, bad + right);
        x.hear(20);
        due("the one ahead was not heard since", x.receiver(9), 0);
        x.hear(20);
        due("right", x.receiver(9), 0);
        Check.append(x, bad + bad);
        x.hear(19);
        due("not yet", x.receiver(9), 0);
        x.hear(1);
        due("one, though two bits are wrong", x.receiver(9), 1);
        x.hear(20);
        due("two in all", x.receiver(9), 2);
        due("counted, no more", x.receiver(0), 2);
        due("no mimics", x.receiver(3), 0);
    }

    private static void promise17() {
        Framer x = Check.made(SMALL);
        due("candidate(7)", x.candidate(7), 7);
        due("candidate(8)", x.candidate(8), NONE);
        due("candidate(-1)", x.candidate(-1), NONE);
        due("candidate(MAX)", x.candidate(MAX), NONE);
        due("candidate(MIN)", x.candidate(MIN), NONE);
        Check.append(x, SMALL_BITS);
        x.hear(4);
        int[] left = {0, 5, 6, 7};
        for (int k = 0; k < 4; k++) {
            due("candidate(" + k + ")", x.candidate(k), left[k]);
        }
        due("candidate(4)", x.candidate(4), NONE);
        x.hear(4);
        due("it does not hunt", x.candidate(0), NONE);
    }

    private static void promise18() {
        Framer x = Check.made("length 8;roles 0 1;width 3;least 2;");
        Check.append(x, "00000000 10000000 0101 1101 10111000");
        x.hear(23);
        due("none was read", x.frame(0), NONE);
        due("no ones of none", x.frame(2), NONE);
        due("no channel of none", x.frame(10), NONE);
        x.hear(1);
        int[] want = {0, 0, 4, NONE, NONE, NONE, NONE, NONE, NONE, NONE, 5, 6, NONE};
        for (int w = 0; w < want.length; w++) {
            due("frame(" + w + ")", x.frame(w), want[w]);
        }
        due("frame(-1)", x.frame(-1), NONE);
        due("frame(MAX)", x.frame(MAX), NONE);
        due("frame(MIN)", x.frame(MIN), NONE);
        x.hear(8);
        due("its number", x.frame(0), 1);
        due("its place", x.frame(1), 1);
        due("its ones", x.frame(2), 3);
        due("channel 0", x.frame(10), 3);
        due("channel 1", x.frame(11), 4);
        Check.append(x, "1 0000000 0 0000000 00000000 10000000 01010101");
        x.hear(16);
        due("lost", x.receiver(5), 1);
        due("what was read stays", x.frame(0), 2);
        x.hear(24);
        due("numbers go on", x.frame(0), x.receiver(10) - 1);
    }

    private static void promise19() {
        String told = "length 8;roles 0 1;width 3;least 2;";
        Framer x = Check.made(told + "stolen 1;");
        due("none was read", x.signal(0), NONE);
        Check.append(x, "00000000 10000000 01011101 10000010 00010000 10000010");
        x.hear(24);
        int[] first = {1, 0, 1, 0};
        int[] second = {0, 1, 0, 1};
        for (int f = 0; f < 4; f++) {
            due("signal(0) by " + f, x.signal(0), first[f]);
            due("signal(1) by " + f, x.signal(1), second[f]);
            due("signal(2)", x.signal(2), NONE);
            due("signal(-1)", x.signal(-1), NONE);
            due("signal(MAX)", x.signal(MAX), NONE);
            due("signal(MIN)", x.signal(MIN), NONE);
            x.hear(8);
        }
        Framer y = Check.made(told + "stolen 2;");
        Check.append(y, "00000000 10000000 01111111 10000000");
        y.hear(24);
        due("no frame with signals was read", y.signal(0), NONE);
        y.hear(8);
        due("the second has them", y.signal(0), 0);
        Framer z = Check.made(told + "stolen 3;");
        Check.append(z, "00000000 10000000 01111111 10000000 01111111");
        z.hear(40);
        due("no frame is a third one", z.signal(0), NONE);
        Framer w = Check.made(told + "stolen 1;drift 50;");
        Check.append(w, "00000000 10000000 01011101 10000010 00010000 10000010 00010000 10000010");
        w.hear(64);
        // Six frames came, of five that were read the latest three tell 1, 0, 1.
        due("five were read", w.receiver(12), 5);
        due("signals of frames that were read", w.signal(0), 1);
    }

    private static void promise20() {
        Framer x = Check.made(LINKED);
        due("none", x.value(0), NONE);
        Check.append(x, LINKED_BITS);
        x.hear(12);
        for (int v = 1; v <= 8; v++) {
            x.say(20 * v);
        }
        for (int n = 0; n < 10; n++) {
            x.send(8, n);
        }
        x.hear(960);
        due("eight were taken", x.receiver(16), 8);
        due("value(0)", x.value(0), 160);
        due("value(7)", x.value(7), 20);
        x.say(255);
        x.send(8, 1);
        x.send(2, 1);
        x.hear(120);
        due("nine were taken", x.receiver(16), 9);
        due("value(0)", x.value(0), 255);
        due("value(1)", x.value(1), 160);
        due("value(7)", x.value(7), 40);
        due("value(8)", x.value(8), NONE);
        due("value(-1)", x.value(-1), NONE);
        due("value(MAX)", x.value(MAX), NONE);
        due("value(MIN)", x.value(MIN), NONE);
    }

    private static void promise21() {
        Framer x = Check.made(LINKED);
        Check.append(x, LINKED_BITS);
        for (int v = 0; v < 3; v++) {
            x.say(v);
        }
        x.hear(5);
        x.image(0);
        String before = state(x);
        int[] got = new int[18];
        for (int w = 0; w < 18; w++) {
            got[w] = x.ahead(8, 44, w);
        }
        Keep.same("ahead", state(x), before);
        due("ahead(0, ..)", x.ahead(0, 1, 0), NONE);
        due("ahead(9, ..)", x.ahead(9, 1, 0), NONE);
        due("ahead(MIN, ..)", x.ahead(MIN, 1, 0), NONE);
        due("ahead(.., 18)", x.ahead(1, 1, 18), NONE);
        due("ahead(.., -1)", x.ahead(1, 1, -1), NONE);
        due("ahead locks", got[0], 2);
        x.send(8, 44);
        x.hear(7 + 96);
        for (int w = 0; w < 18; w++) {
            due("ahead(8, 44, " + w + ")", got[w], x.receiver(w));
        }
        Framer y = Check.made("length 20;roles 0 1;");
        for (int n = 0; n < 12; n++) {
            y.send(8, n);
        }
        y.send(4, 1);
        y.hear(4000);
        int frames = y.receiver(10);
        due("more than 4000 may be", y.ahead(8, 3, 10), frames + 16);
        due("nothing stays", y.count(11), 4000);
    }

    private static void promise22() {
        Framer x = Check.made(SMALL);
        due("an empty line", x.struck(0, 0), NONE);
        Check.append(x, SMALL_BITS);
        int[] first = {NONE, 3, 2, 1, 0, 7, 6, 5};
        for (int p = 0; p < 8; p++) {
            due("struck(0, " + p + ")", x.struck(0, p), first[p]);
        }
        due("struck(4, 4)", x.struck(4, 4), NONE);
        due("struck(4, 0)", x.struck(4, 0), 4);
        due("struck(7, 1)", x.struck(7, 1), NONE);
        due("struck(7, 4)", x.struck(7, 4), 7);
        due("struck(8, 0)", x.struck(8, 0), NONE);
        due("struck(-1, 0)", x.struck(-1, 0), NONE);
        due("struck(0, 8)", x.struck(0, 8), NONE);
        due("struck(0, -1)", x.struck(0, -1), NONE);
        due("struck(MAX, MAX)", x.struck(MAX, MAX), NONE);
        due("struck(MIN, MIN)", x.struck(MIN, MIN), NONE);
        x.hear(8);
        due("heard or not", x.struck(0, 1), 3);
    }

    private static void promise23and24() {
        Framer x = Check.made(SMALL);
        Check.append(x, SMALL_BITS + SMALL_BITS + "0");
        due("locks(0)", x.locks(0), 8);
        due("locks(4)", x.locks(4), 8);
        due("locks(9)", x.locks(9), 8);
        due("locks(10)", x.locks(10), NONE);
        due("locks(17)", x.locks(17), NONE);
        due("locks(-1)", x.locks(-1), NONE);
        due("locks(MAX)", x.locks(MAX), NONE);
        due("locks(MIN)", x.locks(MIN), NONE);
        due("from(0, 0)", x.from(0, 0), 2);
        due("from(0, 7)", x.from(0, 7), 9);
        due("from(0, 10)", x.from(0, 10), 2);
        due("from(4, 7)", x.from(4, 7), 5);
        due("from(16, 7)", x.from(16, 7), 1);
        due("from(16, 1)", x.from(16, 1), 7);
        due("from(17, 0)", x.from(17, 0), NONE);
        due("from(-1, 0)", x.from(-1, 0), NONE);
        due("from(0, 18)", x.from(0, 18), NONE);
        due("from(0, -1)", x.from(0, -1), NONE);
        due("from(MAX, 0)", x.from(MAX, 0), NONE);
        due("from(MIN, 0)", x.from(MIN, 0), NONE);
        due("the receiver is as it was", x.receiver(7), 0);
        Framer y = Check.made(CHECKED);
        Check.append(y, CHECKED_BITS + CHECKED_BITS + CHECKED_BITS);
        due("it verifies first", y.locks(0), 36);
        due("from 12 on too few", y.locks(12), NONE);
        due("from 12 on it verifies", y.from(12, 0), 1);
        y.turn(32);
        due("a mimic", y.locks(0), NONE);
        due("a mimic is told", y.from(0, 3), 1);
    }

    private static void promise25and26() {
        Framer x = Check.made(SMALL);
        due("all fit", x.fits(0, NONE), 8);
        due("fits(0, 7)", x.fits(0, 7), 7);
        due("fits(0, 8)", x.fits(0, 8), NONE);
        due("fits(1, NONE) of none", x.fits(1, NONE), NONE);
        due("least(0)", x.least(0), NONE);
        Check.append(x, SMALL_BITS);
        due("fits(4, NONE)", x.fits(4, NONE), 4);
        int[] left = {0, 5, 6, 7};
        for (int k = 0; k < 4; k++) {
            due("fits(4, " + k + ")", x.fits(4, k), left[k]);
        }
        due("fits(4, 4)", x.fits(4, 4), NONE);
        due("fits(4, -2)", x.fits(4, -2), NONE);
        due("fits(4, MIN)", x.fits(4, MIN), NONE);
        due("fits(8, NONE)", x.fits(8, NONE), 1);
        due("fits(9, NONE)", x.fits(9, NONE), NONE);
        due("fits(-1, NONE)", x.fits(-1, NONE), NONE);
        due("fits(MAX, NONE)", x.fits(MAX, NONE), NONE);
        due("least(8)", x.least(8), 8);
        due("least(7)", x.least(7), NONE);
        due("least(9)", x.least(9), NONE);
        due("least(-1)", x.least(-1), NONE);
        due("least(MIN)", x.least(MIN), NONE);
        Check.append(x, "1");
        due("none fits", x.fits(9, NONE), 0);
        due("the 0th of none", x.fits(9, 0), NONE);
        due("least stays", x.least(9), 8);
        Framer y = Check.made("length 4;roles 0 0;");
        Check.append(y, "1110");
        due("two at once", y.fits(3, NONE), 2);
        due("two fit", y.least(4), NONE);
        Check.append(y, "0000 1");
        due("still two", y.fits(7, NONE), 2);
        y.turn(7);
        due("both are struck by one", y.fits(8, NONE), 0);
        due("so never one alone", y.least(8), NONE);
    }

    private static void promise27() {
        Framer x = Check.made("length 4;roles 0 1;least 2;wrong 2 4;");
        due("an empty line", x.weak(), NONE);
        for (int i = 0; i < 6; i++) {
            Check.append(x, SMALL_BITS);
        }
        x.hear(8);
        due("by none", x.weak(), NONE);
        x.turn(12);
        due("one ahead of a wrong one", x.weak(), 8);
        x.turn(20);
        due("still", x.weak(), 8);
        x.hear(4);
        due("between", x.weak(), 16);
        x.turn(20);
        x.turn(16);
        due("it would be lost at 16: the least that lets it be", x.weak(), 13);
        Framer y = Check.made("length 4;roles 0 1;least 2;wrong 1 1;");
        Check.append(y, SMALL_BITS + SMALL_BITS);
        due("it is not locked, but will be", y.weak(), 8);
        y.hear(9);
        due("the next first one", y.weak(), 12);
        y.hear(7);
        due("no bits behind", y.weak(), NONE);
    }

    private static void promise27Edges() {
        int start = 288 * 9;
        Framer x = wide(start - 40, start + 96);
        due("41 behind", x.weak(), NONE);
        x.hear(1);
        due("40 behind", x.weak(), start);
        Framer y = wide(start - 16, start + 384);
        due("lost by the 401st", y.weak(), NONE);
        y.hear(1);
        due("lost by the 400th", y.weak(), start);
        String before = state(y);
        y.weak();
        Keep.same("weak", state(y), before);
    }

    private static Framer wide(int heard, int turned) {
        Framer x = Check.made(WIDE);
        x.send(8, 11);
        x.send(5, 12);
        x.hear(heard);
        Check.due("locked by then", x.receiver(0) == 2 && x.receiver(8) == 0, true);
        x.turn(turned);
        return x;
    }

    private static void promise28and29() {
        Framer x = Check.made(LINKED);
        Check.due("again(0) of none", x.again(0), false);
        for (int k : new int[] {-1, 3, MAX, MIN}) {
            Check.due("image(" + k + ")", x.image(k), false);
            Check.due("again(" + k + ")", x.again(k), false);
        }
        Check.append(x, LINKED_BITS);
        x.say(7);
        x.send(4, 6);
        x.hear(40);
        Check.type(x, "wrong");
        x.scheme();
        Check.type(x, "poly");
        Check.due("image(2)", x.image(2), true);
        due("acts can still be undone", x.count(13), 6);
        String kept = state(x).replace(" 6 4 1 ", " 0 4 1 ");
        int ahead = x.ahead(8, 5, 16);
        Check.due("image(0)", x.image(0), true);
        x.hear(3);
        x.say(1);
        x.scheme();
        x.scheme();
        x.send(8, 3);
        Check.due("again(1) of none", x.again(1), false);
        due("it changes nothing", x.count(11), 384);
        Check.due("image(1)", x.image(1), true);
        Check.due("again(2)", x.again(2), true);
        Keep.same("again", state(x), kept);
        due("again: ahead", x.ahead(8, 5, 16), ahead);
        due("nothing to undo", x.undo(), NONE);
        due("the fault, too", x.fault(true), 5);
        x.turn(50);
        Check.due("again(2) once more", x.again(2), true);
        Keep.same("again, though turned since", state(x), kept);
        Check.due("again(1)", x.again(1), true);
        due("the other image", x.count(11), 384);
    }

    /** What is read of the store, bit by bit. */
    private static String reads(Framer x, int bits) {
        StringBuilder b = new StringBuilder();
        for (int n = 0; n < bits; n++) {
            x.hear(1);
            b.append(x.frame(0)).append(' ').append(x.frame(10)).append(' ').append(x.signal(0)).append(' ');
            b.append(x.receiver(11)).append(' ');
        }
        return b.toString();
    }

    private static void promise28and29Store() {
        Framer x = Check.made("length 4;roles 0 1;least 2;lag 50;width 3;stolen 2;");
        Check.append(x, SMALL_BITS);
        for (int n = 0; n < 5; n++) {
            x.send(8, n);
        }
        x.hear(143);
        due("two in the store", x.receiver(14), 2);
        x.image(1);
        String first = reads(x, 21);
        x.again(1);
        Keep.same("again: the store", reads(x, 21), first);
        x.again(1);
        x.hear(60);
        x.undo();
        Keep.same("undo: the store", reads(x, 21), first);
    }

    private static void promise28and29Checks() {
        Framer x = Check.made(CHECKED);
        Check.append(x, CHECKED_BITS + CHECKED_BITS + CHECKED_BITS);
        x.turn(32);
        x.hear(35);
        x.image(0);
        x.hear(1);
        due("a mimic", x.receiver(3), 1);
        x.image(1);
        x.again(0);
        due("not yet", x.receiver(3), 0);
        x.again(1);
        due("again a mimic", x.receiver(3), 1);
        x.send(1, 7);
        int checks = x.checks(36);
        x.image(2);
        for (int n = 0; n < 3; n++) {
            x.send(3, n);
            due("checks of what was sent ahead of it", x.bit(48 + 8), checks);
            x.again(2);
        }
    }
}
