/** Edges of kinds, asks, counts and status: promises 25 to 30, and what the terms tell of them. */
final class AskEdges {
    private static final int NONE = RoomsOfAir.NONE, BAD = RoomsOfAir.BAD, KIND = -1000013;
    private static final int FLIGHT = 0, LATE = 1, ROUND = 2, CALM = 3;

    private AskEdges() {
    }

    static void addTo(Edges edges) {
        edges.of(Edges.TERMS, "3 KIND (a FLIGHT that is not that)", AskEdges::kindIsFinding3);
        edges.of(Edges.TERMS, "1 LATE, a FLIGHT: DELAY is 1 or more", AskEdges::lateByOne);
        edges.of(Edges.TERMS, "2 ROUND, a LATE one: WAY is not 0", AskEdges::roundByAnotherWay);
        edges.of(Edges.TERMS, "3 CALM, a FLIGHT: not LATE, nothing is TOO MUCH where it is.", AskEdges::calmWhereNothingIsTooMuch);
        edges.of(Edges.TERMS, "It is told as the first that fits of ROUND, LATE, CALM, FLIGHT;", AskEdges::theFirstKindThatFits);
        edges.of(Edges.TERMS, "leaves its number in THE TRACE as it begins (the first 16)", AskEdges::theTraceOfEachBody);
        edges.of(Edges.TERMS, "0 SIZE: 10 lent to all FLIGHTS: how many SLOTS its WAY takes.", AskEdges::sizeFromOneToTwenty);
        edges.of(Edges.TERMS, "else that of the nearest KIND that it is, too, else the one that is lent;", AskEdges::theNearestBody);
        edges.of(Edges.TERMS, "MARK within another one is asked of the same FLIGHT anew.", AskEdges::markIsAskedAnew);
        edges.of(25, "BAD.", AskEdges::kindIsBad);
        edges.of(26, "taken as one of a KIND (0 .. 3)", AskEdges::asTakesFourKinds);
        edges.of(26, "BAD;", AskEdges::asIsBad);
        edges.of(26, "KIND: it is no such one (each is a FLIGHT, ROUND ones are LATE, too)", AskEdges::asFindsKind);
        edges.of(27, "BAD.", AskEdges::askIsBad);
        edges.of(27, "THE TRACE is empty ahead of it.", AskEdges::theTraceBeginsAnew);
        edges.of(28, "; NONE.", AskEdges::whereTheTraceHasNothing);
        edges.of(29, "0 SHEETS, 1 FLIGHTS, 2 STORMS,", AskEdges::countsFromNoneToAll);
        edges.of(29, "3 LATE (ROUND, too), 4 ROUND, 5 CALM ones, as they are told,", AskEdges::countsOfKinds);
        edges.of(29, "6 bytes on the tape, 7 WORLDS LOOKED AT (how many).", AskEdges::countsOfBytesAndWorlds);
        edges.of(29, "BAD.", AskEdges::countIsBad);
        edges.of(30, "Of the latest call with a SHEET, or as(),", AskEdges::statusIsOfTheLatest);
        edges.of(30, "that was not BAD, STATE, FULL:", AskEdges::statusOutlivesBad);
        edges.of(30, "0: it had none, or there was none.", AskEdges::statusOfNone);
    }

    /** Flights 0 FLIGHT, 1 LATE, 2 ROUND, 3 CALM. */
    private static RoomsOfAir ofAllKinds() {
        RoomsOfAir x = Checks.withText("bear 0 0;flight 0 1 0 2 way 0 1;flight 1 2 0 4 way 1 2;flight 2 3 0 6 way 1 1 way 2 3;flight 3 4 0 8 way 3 4;");
        x.choose(1, 0, 1);
        x.choose(2, 1, 2);
        return x;
    }

    private static void kindIsFinding3(Checks c) {
        RoomsOfAir x = ofAllKinds();
        c.due("answer", x.as(0, CALM), -1000010 - 3);
        c.due("status", x.status(), 3);
    }

    private static void lateByOne(Checks c) {
        RoomsOfAir x = ofAllKinds();
        for (int delay = 0; delay <= 4; delay++) {
            x.choose(0, 0, delay);
            x.choose(3, 0, delay);
            c.due("a crowded one, delay " + delay, x.kind(0), delay == 0 ? FLIGHT : LATE);
            c.due("a calm one, delay " + delay, x.kind(3), delay == 0 ? CALM : LATE);
        }
    }

    private static void roundByAnotherWay(Checks c) {
        RoomsOfAir x = Checks.withText("flight 0 1 0 0 way 0 1 way 1 1 way 2 1;");
        for (int way = 0; way <= 2; way++) {
            for (int delay = 0; delay <= 4; delay++) {
                x.choose(0, way, delay);
                c.due("way " + way + ", delay " + delay, x.kind(0), delay == 0 ? CALM : way == 0 ? LATE : ROUND);
            }
        }
    }

    private static void calmWhereNothingIsTooMuch(Checks c) {
        RoomsOfAir x = Checks.withText("flight 0 4 40 0 way 0 4,1 3,2 1,3 1;flight 1 5 39 0 way 4 1;");
        c.due("nothing is too much", x.kind(0), CALM);
        Checks.readText(x, "bear 0 4;bear 1 4;bear 2 4;bear 3 0;");
        c.due("as much as is safe, nowhere beyond slot 47", x.kind(0), CALM);
        Checks.readText(x, "bear 4 0;");
        c.due("too much elsewhere", x.kind(0), CALM);
        c.due("there", x.kind(1), FLIGHT);
        Checks.readText(x, "bear 2 3;");
        c.due("one too much in its last slot", x.kind(0), FLIGHT);
        Checks.readText(x, "bear 2 4;storm 1 0 40 41 3;");
        c.due("a storm that is not looked at", x.kind(0), CALM);
        x.look(3);
        c.due("one too much in its first slot", x.kind(0), FLIGHT);
        RoomsOfAir y = Checks.withText("bear 0 5;flight 0 3 0 0 way 0 1;flight 1 3 0 0 way 0 1;");
        c.due("another one is too much", y.kind(0), FLIGHT);
        y.choose(1, 0, 1);
        c.due("the other one is gone", y.kind(0), CALM);
    }

    private static void theFirstKindThatFits(Checks c) {
        RoomsOfAir x = ofAllKinds();
        for (int flight = 0; flight < 4; flight++) {
            c.due("flight " + flight, x.kind(flight), flight);
        }
        Checks.readText(x, "bear 1 0;bear 2 0;bear 3 0;");
        int[] due = {FLIGHT, LATE, ROUND, FLIGHT};
        for (int flight = 0; flight < 4; flight++) {
            c.due("too much everywhere, flight " + flight, x.kind(flight), due[flight]);
        }
    }

    private static void asked(Checks c, RoomsOfAir x, int flight, int what, int due, int... trace) {
        c.due("ask " + what + " of " + flight, x.ask(flight, what), due);
        for (int i = 0; i < trace.length; i++) {
            c.due("number " + i + " of its trace", x.trace(i), trace[i]);
        }
        for (int i = trace.length; i <= 17; i++) {
            c.due("number " + i + " of its trace", x.trace(i), NONE);
        }
    }

    private static void theTraceOfEachBody(Checks c) {
        RoomsOfAir x = ofAllKinds();
        asked(c, x, 0, 0, 1, 10);
        asked(c, x, 1, 0, 2 + 4, 11, 10);
        asked(c, x, 2, 0, 2 * (3 + 22), 12, 11, 10);
        asked(c, x, 3, 0, 4 + 4 + 3, 13, 10, 22, 20);
        asked(c, x, 0, 1, 1, 20);
        asked(c, x, 1, 1, 102, 21, 20);
        asked(c, x, 3, 1, 4 + 3, 22, 20);
    }

    private static void sizeFromOneToTwenty(Checks c) {
        RoomsOfAir x = Checks.withText("bear 0 0;flight 0 1 0 0 way 0 1 way 0 4,0 4,0 4,0 4,0 4;flight 0 1 40 0 way 0 4,0 4,0 4,0 4,0 4;");
        asked(c, x, 0, 0, 1, 10);
        x.choose(0, 1, 0);
        asked(c, x, 0, 0, 20, 10);
        asked(c, x, 1, 0, 20, 10);
        x.choose(1, 0, 4);
        asked(c, x, 1, 0, 20, 11, 10);
        RoomsOfAir dear = Checks.withText("flight 0 1 0 99 way 0 1 way 1 1 way 0 4,0 4,0 4,0 4,0 4;");
        dear.choose(0, 2, 4);
        asked(c, dear, 0, 0, 2 * (20 + 416), 12, 11, 10);
    }

    private static void theNearestBody(Checks c) {
        RoomsOfAir x = ofAllKinds();
        asked(c, x, 2, 1, 103, 21, 20);
        asked(c, x, 0, 0, 1, 10);
        asked(c, x, 0, 1, 1, 20);
    }

    private static void markIsAskedAnew(Checks c) {
        RoomsOfAir x = Checks.withText("flight 0 9 0 0 way 7 1;flight 3 1 0 0 way 0 4;");
        asked(c, x, 0, 0, 1 + 9 + 0, 13, 10, 22, 20);
        asked(c, x, 1, 0, 4 + 1 + 3, 13, 10, 22, 20);
    }

    private static void kindIsBad(Checks c) {
        c.takesOnly("flight", 0, 3, BAD, flight -> ofAllKinds().kind(flight));
        c.due("without flights", new RoomsOfAir().kind(0), BAD);
    }

    private static void asTakesFourKinds(Checks c) {
        c.takesOnly("kind", 0, 3, BAD, kind -> ofAllKinds().as(0, kind));
        RoomsOfAir x = ofAllKinds();
        for (int flight = 0; flight < 4; flight++) {
            c.due("each as its own kind", x.as(flight, flight), flight + 1);
        }
    }

    private static void asIsBad(Checks c) {
        c.takesOnly("flight", 0, 3, BAD, flight -> ofAllKinds().as(flight, 0));
        c.takesOnly("kind", 0, 3, BAD, kind -> ofAllKinds().as(3, kind));
        c.due("kind ahead of KIND", ofAllKinds().as(0, 4), BAD);
        c.due("flight ahead of KIND", ofAllKinds().as(4, 3), BAD);
        c.due("without flights", new RoomsOfAir().as(0, 0), BAD);
    }

    private static void asFindsKind(Checks c) {
        boolean[][] is = {{true, false, false, false}, {true, true, false, false}, {true, true, true, false}, {true, false, false, true}};
        for (int flight = 0; flight < 4; flight++) {
            for (int kind = 0; kind < 4; kind++) {
                RoomsOfAir x = ofAllKinds();
                c.due(flight + " as " + kind, x.as(flight, kind), is[flight][kind] ? flight + 1 : KIND);
                c.due("status of " + flight + " as " + kind, x.status(), is[flight][kind] ? 0 : 3);
            }
        }
    }

    private static void askIsBad(Checks c) {
        c.takesOnly("flight", 0, 3, BAD, flight -> ofAllKinds().ask(flight, 1));
        c.takesOnly("what", 0, 1, BAD, what -> ofAllKinds().ask(3, what));
        c.due("without flights", new RoomsOfAir().ask(0, 0), BAD);
        RoomsOfAir x = ofAllKinds();
        x.ask(3, 0);
        x.ask(3, 2);
        x.ask(4, 0);
        c.due("the trace stays", x.trace(3), 20);
    }

    private static void theTraceBeginsAnew(Checks c) {
        RoomsOfAir x = ofAllKinds();
        asked(c, x, 3, 0, 11, 13, 10, 22, 20);
        asked(c, x, 0, 1, 1, 20);
        for (int i = 0; i < 20; i++) {
            x.ask(3, 0);
        }
        asked(c, x, 3, 0, 11, 13, 10, 22, 20);
    }

    private static void whereTheTraceHasNothing(Checks c) {
        c.due("before an ask", new RoomsOfAir().trace(0), NONE);
        RoomsOfAir x = ofAllKinds();
        x.ask(3, 0);
        c.due("the first", x.trace(0), 13);
        c.due("the last", x.trace(3), 20);
        int[] nothing = {4, 15, 16, 17, -1, -2, Integer.MIN_VALUE, Integer.MAX_VALUE};
        for (int i : nothing) {
            c.due("number " + i, x.trace(i), NONE);
        }
    }

    private static void countsFromNoneToAll(Checks c) {
        for (int what = 0; what <= 6; what++) {
            c.due("of nothing, " + what, new RoomsOfAir().count(what), 0);
        }
        RoomsOfAir x = Checks.withText("flight 0 1 0 0 way 0 1;".repeat(12));
        Checks.readText(x, "storm 1 0 0 1 1;".repeat(20));
        for (int sheet = 0; sheet < 8; sheet++) {
            x.sheet(sheet, 0, 0);
            x.sheet(sheet, 0, 0);
            c.due("sheets", x.count(0), sheet + 1);
        }
        c.due("flights", x.count(1), 12);
        c.due("storms", x.count(2), 20);
    }

    private static void countsOfKinds(Checks c) {
        RoomsOfAir x = ofAllKinds();
        c.due("late", x.count(3), 2);
        c.due("round", x.count(4), 1);
        c.due("calm", x.count(5), 1);
        RoomsOfAir all = Checks.withText("flight 0 1 0 0 way 0 1 way 1 1;".repeat(9));
        Checks.readText(all, "flight 0 1 0 0 way 0 1 way 1 1;".repeat(3));
        int[][] due = {{0, 0, 0, 0, 0}, {0, 1, 12, 0, 0}, {1, 1, 12, 12, 0}, {1, 0, 0, 0, 0}};
        for (int[] row : due) {
            for (int flight = 0; flight < 12; flight++) {
                all.choose(flight, row[0], row[1]);
            }
            c.due("late, way " + row[0] + ", delay " + row[1], all.count(3), row[2]);
            c.due("round, way " + row[0] + ", delay " + row[1], all.count(4), row[3]);
            c.due("calm, all in one room, way " + row[0] + ", delay " + row[1], all.count(5), row[4]);
        }
        Checks.readText(all, "bear 1 12;");
        c.due("calm, all of them", all.count(5), 12);
    }

    private static void countsOfBytesAndWorlds(Checks c) {
        RoomsOfAir x = new RoomsOfAir();
        for (int i = 1; i <= 62; i++) {
            x.feed(0, 8);
            c.due("bytes", x.count(6), 8 * i);
        }
        x.feed(0, 4);
        c.due("all bytes", x.count(6), 500);
        x.read();
        c.due("no byte", x.count(6), 0);
        for (int worlds = 1; worlds <= 15; worlds++) {
            x.look(worlds);
            c.due("worlds " + worlds, x.count(7), Integer.bitCount(worlds));
        }
    }

    private static void countIsBad(Checks c) {
        c.takesOnly("what", 0, 7, BAD, what -> new RoomsOfAir().count(what));
        c.takesOnly("what of many", 0, 7, BAD, what -> ofAllKinds().count(what));
    }

    private static void statusIsOfTheLatest(Checks c) {
        RoomsOfAir x = ofAllKinds();
        x.as(0, LATE);
        c.due("as", x.status(), 3);
        x.drop(0);
        c.due("drop", x.status(), 1);
        x.sheet(0, 0, -1);
        c.due("sheet", x.status(), 4);
        x.sheet(0, 0, 2);
        c.due("sheet without one", x.status(), 0);
        x.set(0, 2, 0);
        c.due("set", x.status(), 2);
        x.sheet(1, 1, 2);
        x.copy(0, 0, 1, 0, 1);
        c.due("copy", x.status(), 5);
        x.bears(0, 0, 2, 0, 1);
        c.due("bears", x.status(), 1);
        x.staff(0, 0, 2, 1);
        c.due("staff", x.status(), 2);
        otherCallsLeaveStatus(c, x, 2);
        x.as(0, FLIGHT);
        c.due("as without one", x.status(), 0);
        otherCallsLeaveStatus(c, x, 0);
    }

    private static void otherCallsLeaveStatus(Checks c, RoomsOfAir x, int due) {
        x.look(1);
        x.safe(0, 0, 0);
        Checks.readText(x, "x");
        Checks.readText(x, "bear 5 5;");
        x.fault();
        x.told(0, 0);
        x.leg(0, 0, 9, 0);
        x.choose(0, 0, 0);
        x.at(0, 47);
        x.load(0, 0, 1);
        x.all(0);
        x.known(0, 0, 0);
        x.split(NONE);
        x.settle(8);
        x.harmless(0, 1);
        x.swap();
        x.airline(0, 3);
        x.kind(0);
        x.ask(0, 0);
        x.trace(0);
        x.count(0);
        c.due("status is no call of its own", x.status(), due);
        c.due("other calls leave it", x.status(), due);
    }

    private static void statusOutlivesBad(Checks c) {
        RoomsOfAir x = ofAllKinds();
        Checks.putSheet(x, 0, 100);
        x.as(0, CALM);
        x.sheet(8, 0, 0);
        x.set(8, 0, 0);
        x.copy(8, 0, 0, 0, 0);
        x.drop(8);
        x.bears(8, 0, 0, 0, 1);
        x.staff(48, 0, 0, 1);
        x.as(4, 0);
        c.due("BAD leaves it", x.status(), 3);
        x.bears(0, 0, 0, 0, 1);
        x.staff(0, 0, 0, 1);
        c.due("BAD for an item leaves it", x.status(), 3);
        for (int i = 0; i < 63; i++) {
            x.feed(0, 8);
        }
        c.due("FULL leaves it", x.status(), 3);
    }

    private static void statusOfNone(Checks c) {
        c.due("there was none", new RoomsOfAir().status(), 0);
        RoomsOfAir x = new RoomsOfAir();
        x.sheet(8, 0, 0);
        c.due("only a BAD one was", x.status(), 0);
        x.sheet(0, 0, 1);
        c.due("it had none", x.status(), 0);
        x.drop(7);
        x.set(0, 0, 0);
        c.due("the latest had none", x.status(), 0);
    }
}
