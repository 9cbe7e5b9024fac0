import java.util.ArrayList;
import java.util.List;
import java.util.function.Supplier;

/** Which refusal is told, and that what is refused, found, or only asked changes nothing. */
final class RefusalEdges {
    private static final int NONE = RoomsOfAir.NONE, BAD = RoomsOfAir.BAD, FULL = RoomsOfAir.FULL;
    private static final int NULL = -1000011, PLACE = -1000012, KIND = -1000013, SIZE = -1000014, STORE = -1000015;
    private static final int STATUS_AHEAD = 4;

    private interface Call {
        int on(RoomsOfAir x);
    }

    private record Refused(int due, Call call) {
    }

    private RefusalEdges() {
    }

    static void addTo(Edges edges) {
        edges.of(Edges.TERMS, "Numbers go from 0 on.", RefusalEdges::numbersGoFrom0On);
        edges.of(Edges.TERMS, "the first of these that fits: BAD (a number is not as told; there is no such thing), STATE (as told), FULL (as told), then FINDINGS",
            RefusalEdges::theFirstThatFits);
        edges.of(Edges.TERMS, "of several the first in time:", RefusalEdges::theFirstInTime);
        edges.of(Edges.TERMS, "What is refused, or found, changes nothing but status().", RefusalEdges::refusedCallsChangeNothing);
        edges.of(11, "nothing is done.", RefusalEdges::faultyTextsChangeNothingElse);
        edges.of(21, "(all stays)", RefusalEdges::whatThereIsNoneOfChangesNothing);
        edges.of(10, "FULL: none comes.", RefusalEdges::aFullTapeStays);
    }

    /** Something of everything; the latest finding is SIZE. */
    private static RoomsOfAir withSomeOfAll() {
        RoomsOfAir x = new RoomsOfAir();
        Checks.readText(x, "bear 0 5;bear 1 4;bear 3 7;storm 1 0 0 3 2;storm 2 3 1 2 0;flight 0 3 0 10 way 0 2,1 2;"
            + "flight 1 3 1 5 way 0 2,1 1 way 2 4;flight 2 2 0 0 way 1 4,0 1;flight 3 9 2 7 way 3 1 way 4 1 way 5 2;");
        x.choose(1, 1, 2);
        x.choose(3, 2, 0);
        x.look(5);
        Checks.putSheet(x, 2, 1, 2, 3, 2, 1, 100);
        x.sheet(1, 1, 3);
        x.set(1, 0, 11);
        x.sheet(0, 0, 48);
        x.set(0, 47, 12);
        x.staff(0, 2, 0, 5);
        x.bears(6, 45, 2, 0, 3);
        Checks.readText(x, "bear 8 1;");
        Checks.feedText(x, "bear 7 ");
        x.ask(0, 0);
        x.sheet(0, 0, -1);
        return x;
    }

    private static List<Refused> refusedCalls() {
        List<Refused> calls = new ArrayList<>();
        addSheetCalls(calls);
        addRoomCalls(calls);
        addTextCalls(calls);
        addLoadCalls(calls);
        addAskCalls(calls);
        return calls;
    }

    private static void addSheetCalls(List<Refused> calls) {
        calls.add(new Refused(BAD, x -> x.sheet(8, 0, 1)));
        calls.add(new Refused(BAD, x -> x.sheet(0, 3, 1)));
        calls.add(new Refused(BAD, x -> x.sheet(0, 0, 49)));
        calls.add(new Refused(SIZE, x -> x.sheet(1, 0, -1)));
        calls.add(new Refused(BAD, x -> x.set(8, 0, 1)));
        calls.add(new Refused(NULL, x -> x.set(7, 0, 1)));
        calls.add(new Refused(PLACE, x -> x.set(1, 3, 1)));
        calls.add(new Refused(PLACE, x -> x.set(0, 48, 1)));
        calls.add(new Refused(BAD, x -> x.copy(8, 0, 2, 0, 1)));
        calls.add(new Refused(BAD, x -> x.copy(2, 0, 8, 0, 1)));
        calls.add(new Refused(NULL, x -> x.copy(7, 0, 2, 0, 1)));
        calls.add(new Refused(NULL, x -> x.copy(2, 0, 7, 0, 1)));
        calls.add(new Refused(STORE, x -> x.copy(2, 0, 1, 0, 1)));
        calls.add(new Refused(PLACE, x -> x.copy(2, 0, 2, 3, 4)));
        calls.add(new Refused(PLACE, x -> x.copy(2, 3, 2, 0, 4)));
        calls.add(new Refused(BAD, x -> x.drop(8)));
        calls.add(new Refused(NULL, x -> x.drop(7)));
    }

    private static void addRoomCalls(List<Refused> calls) {
        calls.add(new Refused(BAD, x -> x.bears(8, 0, 2, 0, 5)));
        calls.add(new Refused(BAD, x -> x.bears(0, 44, 2, 0, 5)));
        calls.add(new Refused(BAD, x -> x.bears(0, 0, 8, 0, 5)));
        calls.add(new Refused(NULL, x -> x.bears(0, 0, 7, 0, 5)));
        calls.add(new Refused(PLACE, x -> x.bears(0, 0, 2, 2, 5)));
        calls.add(new Refused(BAD, x -> x.bears(0, 0, 2, 0, 6)));
        calls.add(new Refused(BAD, x -> x.staff(44, 2, 0, 5)));
        calls.add(new Refused(BAD, x -> x.staff(0, 8, 0, 5)));
        calls.add(new Refused(NULL, x -> x.staff(0, 7, 0, 5)));
        calls.add(new Refused(PLACE, x -> x.staff(0, 2, 2, 5)));
        calls.add(new Refused(BAD, x -> x.staff(1, 2, 0, 6)));
        calls.add(new Refused(BAD, x -> x.look(0)));
        calls.add(new Refused(BAD, x -> x.look(16)));
        calls.add(new Refused(BAD, x -> x.safe(8, 0, 0)));
    }

    private static void addTextCalls(List<Refused> calls) {
        calls.add(new Refused(BAD, x -> x.feed('9', 0)));
        calls.add(new Refused(BAD, x -> x.feed('9', 9)));
        calls.add(new Refused(BAD, x -> x.told(4, 0)));
        calls.add(new Refused(BAD, x -> x.leg(0, 1, 0, 0)));
        calls.add(new Refused(BAD, x -> x.choose(4, 0, 0)));
        calls.add(new Refused(BAD, x -> x.choose(1, 2, 0)));
        calls.add(new Refused(BAD, x -> x.choose(1, 0, 5)));
        calls.add(new Refused(BAD, x -> x.choose(1, -1, 0)));
        calls.add(new Refused(BAD, x -> x.at(0, 48)));
    }

    private static void addLoadCalls(List<Refused> calls) {
        calls.add(new Refused(BAD, x -> x.load(0, 0, 2)));
        calls.add(new Refused(BAD, x -> x.all(6)));
        calls.add(new Refused(BAD, x -> x.known(0, 0, -1)));
        calls.add(new Refused(BAD, x -> x.split(48)));
        calls.add(new Refused(BAD, x -> x.settle(0)));
        calls.add(new Refused(BAD, x -> x.settle(16)));
        calls.add(new Refused(BAD, x -> x.settle(31)));
        calls.add(new Refused(BAD, x -> x.harmless(0, 4)));
        calls.add(new Refused(BAD, x -> x.harmless(1, 1)));
        calls.add(new Refused(BAD, x -> x.airline(4, 0)));
    }

    private static void addAskCalls(List<Refused> calls) {
        calls.add(new Refused(BAD, x -> x.kind(4)));
        calls.add(new Refused(BAD, x -> x.as(4, 0)));
        calls.add(new Refused(BAD, x -> x.as(0, 4)));
        calls.add(new Refused(KIND, x -> x.as(0, 2)));
        calls.add(new Refused(BAD, x -> x.ask(4, 0)));
        calls.add(new Refused(BAD, x -> x.ask(1, 2)));
        calls.add(new Refused(BAD, x -> x.count(8)));
    }

    private static void refusedCallsChangeNothing(Checks c) {
        List<Integer> ahead = Views.of(RefusalEdges::withSomeOfAll);
        c.due("status ahead", withSomeOfAll().status(), STATUS_AHEAD);
        List<Refused> calls = refusedCalls();
        for (int i = 0; i < calls.size(); i++) {
            Refused refused = calls.get(i);
            RoomsOfAir x = withSomeOfAll();
            c.due("answer of call " + i, refused.call.on(x), refused.due);
            boolean isFinding = refused.due != BAD;
            c.due("status behind call " + i, x.status(), isFinding ? -1000010 - refused.due : STATUS_AHEAD);
            List<Integer> behind = Views.of(() -> behind(withSomeOfAll(), refused.call));
            c.holds("all else is as it was, behind call " + i, behind.equals(ahead));
        }
        answersAloneChangeNothing(c, ahead);
    }

    private static RoomsOfAir behind(RoomsOfAir x, Call call) {
        call.on(x);
        return x;
    }

    private static void answersAloneChangeNothing(Checks c, List<Integer> ahead) {
        Call[] asking = {x -> x.safe(0, 0, NONE), x -> x.fault(), x -> x.told(0, 7), x -> x.leg(0, 0, 9, 0), x -> x.at(0, 0),
            x -> x.load(0, 0, 1), x -> x.all(3), x -> x.known(0, 0, 0), x -> x.split(NONE), x -> x.harmless(2, 1), x -> x.airline(0, 2),
            x -> x.airline(0, 3), x -> x.kind(0), x -> x.as(0, 0), x -> x.trace(0), x -> x.count(3), x -> x.status()};
        for (int i = 0; i < asking.length; i++) {
            Call call = asking[i];
            c.holds("all is as it was, behind ask " + i, Views.of(() -> behind(withSomeOfAll(), call)).equals(ahead));
        }
    }

    private static void faultyTextsChangeNothingElse(Checks c) {
        Supplier<RoomsOfAir> plain = () -> behind(withSomeOfAll(), x -> Checks.readText(x, "#"));
        List<Integer> due = Views.of(plain);
        String done = "7;storm 3 7 0 48 0;storm 1 0 0 9 0;flight 3 9 0 9 way 7 4,0 4 way 0 1;bear 0 0;";
        String[] faulty = {"#", "bear 7", "flight 0 9 0 0 way 0 1", "storm 1 1 0 1 1", "way"};
        for (String fault : faulty) {
            c.holds("behind '" + fault + "'", Views.of(() -> behind(withSomeOfAll(), x -> Checks.readText(x, done + fault))).equals(due));
        }
        c.due("nor is there a finding", behind(withSomeOfAll(), x -> Checks.readText(x, done + "#")).status(), STATUS_AHEAD);
    }

    private static void whatThereIsNoneOfChangesNothing(Checks c) {
        Supplier<RoomsOfAir> made = () -> behind(withSomeOfAll(), x -> {
            Checks.putSheet(x, 6, 0, 0, 0, 0, 0);
            return x.bears(0, 0, 6, 0, 5);
        });
        List<Integer> due = Views.of(made);
        c.due("no choices", made.get().settle(5), NONE);
        c.holds("no choices: all stays", Views.of(() -> behind(made.get(), x -> x.settle(5))).equals(due));
        Supplier<RoomsOfAir> still = () -> behind(made.get(), x -> x.choose(1, 0, 0));
        c.due("no swap", still.get().swap(), NONE);
        c.holds("no swap: all stays", Views.of(() -> behind(still.get(), x -> x.swap())).equals(Views.of(still)));
    }

    private static RoomsOfAir withNearlyFullTape() {
        RoomsOfAir x = Checks.withText("flight 0 3 0 10 way 0 2,1 2;");
        for (int i = 0; i < 62; i++) {
            x.feed(0x2020202020202020L, 8);
        }
        return x;
    }

    private static void aFullTapeStays(Checks c) {
        List<Integer> due = Views.of(RefusalEdges::withNearlyFullTape);
        for (int n = 5; n <= 8; n++) {
            int bytes = n;
            c.due(n + " bytes", withNearlyFullTape().feed(-1, n), FULL);
            c.holds("all stays", Views.of(() -> behind(withNearlyFullTape(), x -> x.feed(-1, bytes))).equals(due));
        }
    }

    private static void numbersGoFrom0On(Checks c) {
        c.due("sheet", withSomeOfAll().set(-1, 0, 1), BAD);
        c.due("room", withSomeOfAll().safe(-1, 0, 0), BAD);
        c.due("slot", withSomeOfAll().safe(0, -1, 0), BAD);
        c.due("world", withSomeOfAll().safe(0, 0, -1), BAD);
        c.due("flight", withSomeOfAll().told(-1, 0), BAD);
        c.due("way", withSomeOfAll().leg(0, -1, 0, 0), BAD);
        c.due("airline", withSomeOfAll().airline(-1, 0), BAD);
        c.due("moment", withSomeOfAll().known(0, 0, -1), BAD);
        c.due("place", withSomeOfAll().set(1, -1, 0), PLACE);
        c.due("the first of each", withSomeOfAll().safe(0, 0, 0), 5);
    }

    private static void theFirstThatFits(Checks c) {
        c.due("STATE, which no call tells", RoomsOfAir.STATE, -1000002);
        RoomsOfAir x = withNearlyFullTape();
        c.due("BAD ahead of FULL", x.feed(0, 9), BAD);
        c.due("FULL alone", x.feed(0, 8), FULL);
        c.due("BAD ahead of NULL", x.copy(0, 0, 8, 0, 1), BAD);
        c.due("BAD ahead of SIZE", x.sheet(0, 3, -1), BAD);
        c.due("BAD ahead of KIND", x.as(1, 1), BAD);
        c.due("BAD for one ahead of NULL for another", x.bears(0, 0, 0, 0, 49), BAD);
        Checks.putSheet(x, 0, 100);
        c.due("BAD for an item behind PLACE", x.bears(0, 0, 0, 0, 2), PLACE);
        c.due("BAD for an item", x.bears(0, 0, 0, 0, 1), BAD);
        c.due("NONE behind BAD", x.leg(0, 1, 9, 0), BAD);
    }

    private static void theFirstInTime(Checks c) {
        RoomsOfAir x = withSomeOfAll();
        c.due("NULL ahead of PLACE, set", x.set(7, -1, 0), NULL);
        c.due("NULL ahead of PLACE, copy", x.copy(2, -1, 7, -1, -1), NULL);
        c.due("NULL ahead of PLACE, bears", x.bears(0, 0, 7, -1, 1), NULL);
        c.due("NULL ahead of PLACE, staff", x.staff(0, 7, -1, 1), NULL);
        c.due("STORE ahead of PLACE", x.copy(2, -1, 1, -1, -1), STORE);
        c.due("one finding alone is told", x.status(), 5);
    }
}
