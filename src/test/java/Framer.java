import java.util.NoSuchElementException;

/**
 * A TrunkFramer whose calls are counted: what is answered behind the 512th is free, so a test that
 * goes further rests on nothing and fails.
 */
final class Framer {
    static final int NONE = TrunkFramer.NONE;
    static final int MOST_CALLS = 512;

    private final TrunkFramer x = new TrunkFramer();
    private int calls;

    /** How many more calls a test may make. */
    int callsLeft() {
        return MOST_CALLS - calls;
    }

    private TrunkFramer counted() {
        calls++;
        if (calls == MOST_CALLS + 1) {
            Check.due("calls of one object", calls, MOST_CALLS);
        }
        return x;
    }

    int key(long eight) {
        return counted().key(eight);
    }

    int scheme() {
        return counted().scheme();
    }

    int fault(boolean place) {
        return counted().fault(place);
    }

    int say(int value) {
        return counted().say(value);
    }

    int send(int n, int seed) {
        return counted().send(n, seed);
    }

    boolean turn(int i) {
        return counted().turn(i);
    }

    int lose(int i, int n) {
        return counted().lose(i, n);
    }

    int put(int i, boolean bit) {
        return counted().put(i, bit);
    }

    int hear(int n) {
        return counted().hear(n);
    }

    int undo() {
        return counted().undo();
    }

    int count(int what) {
        return counted().count(what);
    }

    int role(int frame) throws NoSuchElementException {
        return counted().role(frame);
    }

    int bit(int i) {
        return counted().bit(i);
    }

    int checks(int i) {
        return counted().checks(i);
    }

    int receiver(int what) {
        return counted().receiver(what);
    }

    int candidate(int k) {
        return counted().candidate(k);
    }

    int frame(int what) {
        return counted().frame(what);
    }

    int signal(int channel) {
        return counted().signal(channel);
    }

    int value(int k) {
        return counted().value(k);
    }

    int ahead(int n, int seed, int what) {
        return counted().ahead(n, seed, what);
    }

    int struck(int i, int p) {
        return counted().struck(i, p);
    }

    int locks(int i) {
        return counted().locks(i);
    }

    int from(int i, int what) {
        return counted().from(i, what);
    }

    int fits(int n, int k) {
        return counted().fits(n, k);
    }

    int least(int n) {
        return counted().least(n);
    }

    int weak() {
        return counted().weak();
    }

    boolean image(int k) {
        return counted().image(k);
    }

    boolean again(int k) {
        return counted().again(k);
    }
}
