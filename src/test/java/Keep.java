/** What there is, as a text: to see that a call left all as it was. */
final class Keep {
    private Keep() {
    }

    /** All but what can be undone; of the line its first bits. */
    static String state(Framer x) {
        StringBuilder b = new StringBuilder();
        for (int w = 0; w < 16; w++) {
            b.append(w == 13 ? 0 : x.count(w)).append(' ');
        }
        for (int w = 0; w < 18; w++) {
            b.append(x.receiver(w)).append(' ');
        }
        for (int i = 0; i < 12; i++) {
            b.append(x.bit(i));
        }
        return b.append(' ').append(x.frame(0)).append(' ').append(x.value(0)).toString();
    }

    static void same(String call, String got, String want) {
        Check.due(call + ": " + got + " for " + want, got.equals(want), true);
    }
}
