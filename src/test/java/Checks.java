import java.util.function.IntUnaryOperator;

/** Counts answers that are not due, and tells each of them. */
final class Checks {
    private String heading = "";
    private int wrong = 0;
    private int asked = 0;

    /** What is told of wrong answers from now on begins with this. */
    void under(String newHeading) {
        heading = newHeading;
    }

    void due(String what, long got, long want) {
        asked++;
        if (got != want) {
            wrong++;
            System.out.println(heading + what + " answered " + got + ", due is " + want);
        }
    }

    /** From least to most the call is not refused; next to them, and far off, it is. */
    void takesOnly(String what, int least, int most, int refusal, IntUnaryOperator call) {
        for (int v = least; v <= most; v++) {
            holds(what + " " + v + " is taken", call.applyAsInt(v) != refusal);
        }
        int[] beyond = {least - 1, least - 2, least - 256, most + 1, most + 2, most + 256, most + 65536,
            Integer.MIN_VALUE, Integer.MIN_VALUE + 1, Integer.MAX_VALUE - 1, Integer.MAX_VALUE};
        for (int v : beyond) {
            due(what + " " + v, call.applyAsInt(v), refusal);
        }
    }

    void holds(String what, boolean is) {
        due(what, is ? 1 : 0, 1);
    }

    void finish() {
        System.out.println(asked + " checks, " + wrong + " wrong");
        if (wrong != 0) {
            System.exit(1);
        }
    }

    /** Feeds a text by eights; answers what the last feed answered. */
    static int feedText(RoomsOfAir x, String text) {
        int answer = x.count(6);
        for (int i = 0; i < text.length(); i += 8) {
            int n = Math.min(8, text.length() - i);
            long w = 0;
            for (int k = 0; k < n; k++) {
                w = w << 8 | text.charAt(i + k) & 255;
            }
            answer = x.feed(w, n);
        }
        return answer;
    }

    static int readText(RoomsOfAir x, String text) {
        feedText(x, text);
        return x.read();
    }

    static RoomsOfAir withText(String text) {
        RoomsOfAir x = new RoomsOfAir();
        int answer = readText(x, text);
        if (answer < 0) {
            throw new IllegalStateException("a test's text has a fault, " + answer + ": " + text);
        }
        return x;
    }

    /** Puts items on a new sheet of ints. */
    static void putSheet(RoomsOfAir x, int sheet, int... items) {
        x.sheet(sheet, 2, items.length);
        for (int i = 0; i < items.length; i++) {
            x.set(sheet, i, items[i]);
        }
    }
}
