/** Promises 25 to 30: kinds, asks, the trace, counts. */
public final class AsksTest {
    private static final int NONE = RoomsOfAir.NONE, BAD = RoomsOfAir.BAD, KIND = -1000013;
    private static final Checks CHECKS = new Checks();

    public static void main(String[] args) {
        kind();
        as();
        ask();
        trace();
        count();
        statusOfAs();
        CHECKS.finish();
    }

    /** Flights 0 FLIGHT, 1 LATE, 2 ROUND, 3 CALM, 4 CALM by another way. */
    private static RoomsOfAir ofAllKinds() {
        RoomsOfAir x = Checks.withText("bear 0 4;flight 1 5 0 2 way 1 1,0 2;flight 2 3 0 4 way 0 2,2 4;"
            + "flight 3 7 0 6 way 0 1 way 3 2,4 3;flight 3 8 0 8 way 5 4,6 4;flight 2 9 0 8 way 0 1 way 7 1;");
        x.choose(1, 0, 2);
        x.choose(2, 1, 3);
        x.choose(4, 1, 0);
        return x;
    }

    private static void kind() {
        RoomsOfAir x = ofAllKinds();
        int[] due = {0, 1, 2, 3, 3};
        for (int flight = 0; flight < due.length; flight++) {
            CHECKS.due("25: of " + flight, x.kind(flight), due[flight]);
        }
        x.choose(2, 0, 1);
        CHECKS.due("25: late by the first way", x.kind(2), 1);
        CHECKS.due("25: flight 5", x.kind(5), BAD);
        CHECKS.due("25: flight -1", x.kind(-1), BAD);
        Checks.readText(x, "bear 0 99;");
        CHECKS.due("25: calm, where nothing is too much", x.kind(0), 3);
        CHECKS.due("25: late all the same", x.kind(1), 1);
        Checks.readText(x, "storm 1 6 7 8 7;");
        CHECKS.due("25: the storm is not looked at", x.kind(3), 3);
        x.look(3);
        CHECKS.due("25: too much at its end", x.kind(3), 0);
    }

    private static void as() {
        RoomsOfAir x = ofAllKinds();
        int[] weights = {5, 3, 7, 8, 9};
        boolean[][] is = {{true, false, false, false}, {true, true, false, false}, {true, true, true, false},
            {true, false, false, true}, {true, false, false, true}};
        for (int flight = 0; flight < is.length; flight++) {
            for (int kind = 0; kind < 4; kind++) {
                int due = is[flight][kind] ? weights[flight] : KIND;
                CHECKS.due("26: " + flight + " as " + kind, x.as(flight, kind), due);
                CHECKS.due("30: " + flight + " as " + kind, x.status(), is[flight][kind] ? 0 : 3);
            }
        }
        CHECKS.due("26: flight 5", x.as(5, 0), BAD);
        CHECKS.due("26: flight -1", x.as(-1, 0), BAD);
        CHECKS.due("26: kind 4", x.as(0, 4), BAD);
        CHECKS.due("26: kind -1", x.as(0, -1), BAD);
    }

    private static void ask() {
        RoomsOfAir x = ofAllKinds();
        asked(x, 0, 0, 3, 10);
        asked(x, 1, 0, 6 + 8, 11, 10);
        asked(x, 2, 0, 2 * (5 + 28), 12, 11, 10);
        asked(x, 3, 0, 8 + 8 + 3, 13, 10, 22, 20);
        asked(x, 4, 0, 1 + 9 + 2, 13, 10, 22, 20);
        asked(x, 0, 1, 5, 20);
        asked(x, 1, 1, 103, 21, 20);
        asked(x, 2, 1, 107, 21, 20);
        asked(x, 3, 1, 11, 22, 20);
        CHECKS.due("27: flight 5", x.ask(5, 0), BAD);
        CHECKS.due("27: flight -1", x.ask(-1, 0), BAD);
        CHECKS.due("27: what 2", x.ask(0, 2), BAD);
        CHECKS.due("27: what -1", x.ask(0, -1), BAD);
        CHECKS.due("28: BAD leaves the trace", x.trace(0), 22);
        RoomsOfAir y = Checks.withText("flight 0 1 40 0 way 0 4,1 4,2 4;");
        CHECKS.due("27: slots beyond the last count", y.ask(0, 0), 12 + 1);
    }

    private static void asked(RoomsOfAir x, int flight, int what, int due, int... bodies) {
        CHECKS.due("27: ask(" + flight + ", " + what + ")", x.ask(flight, what), due);
        for (int i = 0; i < bodies.length; i++) {
            CHECKS.due("28: trace(" + i + ") of ask(" + flight + ", " + what + ")", x.trace(i), bodies[i]);
        }
        CHECKS.due("28: its end", x.trace(bodies.length), NONE);
    }

    private static void trace() {
        RoomsOfAir x = ofAllKinds();
        CHECKS.due("28: before an ask", x.trace(0), NONE);
        x.ask(3, 0);
        CHECKS.due("28: number -1", x.trace(-1), NONE);
        CHECKS.due("28: number 16", x.trace(16), NONE);
        CHECKS.due("28: far off", x.trace(Integer.MAX_VALUE), NONE);
        CHECKS.due("28: the lowest", x.trace(Integer.MIN_VALUE), NONE);
        CHECKS.due("28: still there", x.trace(3), 20);
    }

    private static void count() {
        RoomsOfAir x = ofAllKinds();
        x.sheet(3, 0, 0);
        x.sheet(4, 0, 48);
        Checks.readText(x, "storm 1 0 0 1 1;storm 2 1 0 1 1;storm 2 1 0 1 1;");
        Checks.feedText(x, "bear bear");
        x.look(13);
        int[] due = {2, 5, 3, 2, 1, 2, 9, 3};
        for (int what = 0; what < due.length; what++) {
            CHECKS.due("29: " + what, x.count(what), due[what]);
        }
        x.drop(4);
        CHECKS.due("29: a sheet less", x.count(0), 1);
        CHECKS.due("29: what 8", x.count(8), BAD);
        CHECKS.due("29: what -1", x.count(-1), BAD);
    }

    private static void statusOfAs() {
        RoomsOfAir x = ofAllKinds();
        x.as(0, 1);
        x.as(0, 4);
        x.as(9, 0);
        CHECKS.due("30: BAD leaves it", x.status(), 3);
        x.sheet(0, 0, -1);
        CHECKS.due("30: the latest of both", x.status(), 4);
        x.as(0, 0);
        CHECKS.due("30: as has none", x.status(), 0);
        x.set(7, 0, 0);
        x.kind(0);
        x.ask(0, 0);
        x.settle(1);
        x.read();
        CHECKS.due("30: other calls leave it", x.status(), 1);
    }
}
