import java.util.NoSuchElementException;
import java.util.Random;

/** Arguments of any kind in any state: nothing but role()'s own exception ever comes out. */
public final class WildCallsTest {
    private static final int[] EDGES = {0, 1, -1, 2, 8, 255, 256, 500, 4000, Integer.MAX_VALUE, Integer.MIN_VALUE};
    /** As many calls of the object as one drawn call may take (a text comes eight by eight bytes). */
    private static final int MOST_OF_ONE = 14;
    private static final int LAST = 3;

    private WildCallsTest() {
    }

    private static int any(Random random) {
        switch (random.nextInt(4)) {
            case 0: return EDGES[random.nextInt(EDGES.length)];
            case 1: return random.nextInt();
            case 2: return random.nextInt(4100) - 20;
            default: return random.nextInt(12);
        }
    }

    private static String told(Random random) {
        String[] told = {"length 24;roles 01dcdcdcdccc;poly 63;width 8;stolen 1;wrong 4 8;least 24;drift 50;",
            "length 4;roles 00;width 8;least 2;wrong 1 1;lag 50;stolen 12;",
            "length 5;roles c1c0cccc1d;poly 21;width 1;stolen 2;", "length 4;roles 01c;least 2;", "roles ;", "x"};
        return told[random.nextInt(told.length)];
    }

    private static void call(Framer x, Random random) {
        int a = any(random);
        int b = any(random);
        int c = any(random);
        switch (random.nextInt(32)) {
            case 0: Check.type(x, told(random)); x.scheme(); break;
            case 1: x.key(random.nextLong()); break;
            case 2: x.fault(a > 0); break;
            case 3: x.say(a); break;
            case 4: x.send(a, b); break;
            case 5: case 6: x.send(1 + random.nextInt(8), b); break;
            case 7: x.turn(a); break;
            case 8: x.lose(a, b); break;
            case 9: x.put(a, b > 0); break;
            case 10: x.hear(a); break;
            case 11: x.undo(); break;
            case 12: x.count(a); break;
            case 13: {
                boolean thrown = false;
                try {
                    x.role(a);
                } catch (NoSuchElementException e) {
                    thrown = true;
                }
                Check.due("role(" + a + ") throws", thrown, a < 0 || a >= x.count(1));
                break;
            }
            case 14: x.bit(a); break;
            case 15: x.checks(a); break;
            case 16: x.receiver(a); break;
            case 17: x.candidate(a); break;
            case 18: x.frame(a); break;
            case 19: x.signal(a); break;
            case 20: x.value(a); break;
            case 21: x.ahead(a, b, c); break;
            case 22: x.struck(a, b); break;
            case 23: x.locks(a); break;
            case 24: x.from(a, b); break;
            case 25: x.fits(a, b); break;
            case 26: x.least(a); break;
            case 27: x.weak(); break;
            case 28: x.image(a); break;
            case 29: x.again(a); break;
            case 30: x.hear(1 + random.nextInt(300)); break;
            default: x.say(random.nextInt(256));
        }
    }

    public static void main(String[] args) {
        for (int seed = 0; seed < 300; seed++) {
            Random random = new Random(seed);
            Framer x = new Framer();
            while (x.callsLeft() > MOST_OF_ONE + LAST) {
                call(x, random);
            }
            Check.due("heard are bits of the line", x.count(12) <= x.count(11) && x.count(11) <= 4000, true);
        }
        Check.end("WildCallsTest");
    }
}
