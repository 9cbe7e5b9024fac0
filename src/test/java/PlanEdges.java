/** Edges of settling, swaps, shares and blame: promises 21 to 24, and what the terms tell of them. */
final class PlanEdges {
    private static final int NONE = RoomsOfAir.NONE, BAD = RoomsOfAir.BAD;
    private static final String LIGHT = "flight 0 1 0 1 way 0 1;";

    private PlanEdges() {
    }

    static void addTo(Edges edges) {
        edges.of(Edges.TERMS, "for a set of FLIGHTS (1 to 5 of them)", PlanEdges::oneToFiveAreSettled);
        edges.of(Edges.TERMS, "the others being as they are", PlanEdges::theOthersStay);
        edges.of(Edges.TERMS, "CHOICES so that nothing is TOO MUCH", PlanEdges::asMuchAsSafeIsNotTooMuch);
        edges.of(Edges.TERMS, "in ROOMS and SLOTS where these FLIGHTS are (with them;", PlanEdges::whereTheseFlightsAre);
        edges.of(Edges.TERMS, "without SPLITS)", PlanEdges::splitsDoNotHelp);
        edges.of(Edges.TERMS, "of least COST together;", PlanEdges::ofLeastCostTogether);
        edges.of(Edges.TERMS, "of several the least for the first FLIGHT (WAY, then DELAY), then the next, ..", PlanEdges::theLeastForTheFirst);
        edges.of(21, "they have these CHOICES then", PlanEdges::theyHaveTheseChoices);
        edges.of(21, "NONE: there are none (all stays).", PlanEdges::thereAreNone);
        edges.of(21, "BAD: no FLIGHT, more than 5, one that is not there.", PlanEdges::settleIsBad);
        edges.of(Edges.TERMS, "each gets the other's DELAY, WAYS stay;", PlanEdges::delaysAreExchanged);
        edges.of(Edges.TERMS, "it HARMS NONE, if all TOO MUCH together is not more than before,", PlanEdges::tooMuchIsNotMore);
        edges.of(Edges.TERMS, "and neither's COST;", PlanEdges::noCostIsMore);
        edges.of(Edges.TERMS, "and one COST is less.", PlanEdges::oneCostIsLess);
        edges.of(22, "Whether a SWAP HARMS NONE: 1, 0.", PlanEdges::harmlessChangesNothing);
        edges.of(22, "BAD: FLIGHTS, of one AIRLINE.", PlanEdges::harmlessIsBad);
        edges.of(23, "The first SWAP that HARMS NONE (by a, then b above it) is done: 100 times a, and b;", PlanEdges::theFirstSwap);
        edges.of(23, "NONE: there is none.", PlanEdges::thereIsNoSwap);
        edges.of(Edges.TERMS, "D f by n, cut; what is left goes by ones", PlanEdges::whatIsLeftOfDelays);
        edges.of(Edges.TERMS, "with the greatest rests (D f modulo n), of several the least number.", PlanEdges::equalRestsOfDelays);
        edges.of(Edges.TERMS, "FAIR: how far DELAYS of AIRLINES are from that, added.", PlanEdges::fairFromNoneToFar);
        edges.of(Edges.TERMS, "over all ROOMS and SLOTS with TOO MUCH", PlanEdges::blameForNothing);
        edges.of(Edges.TERMS, "(each cut, what is left by the greatest rests, of several the least AIRLINE)", PlanEdges::whatIsLeftOfBlame);
        edges.of(24, "0 its FLIGHTS, 1 its DELAYS, 2 its SHARE by law, 3 its BLAME, 4 its COST.", PlanEdges::airlinesFromNoneToAll);
        edges.of(24, "BAD.", PlanEdges::airlineIsBad);
        edges.of(24, "(Without FLIGHTS SHARES are 0.)", PlanEdges::withoutFlights);
    }

    private static void choiceIs(Checks c, RoomsOfAir x, int flight, int way, int delay) {
        c.due("way of " + flight, x.told(flight, 5), way);
        c.due("delay of " + flight, x.told(flight, 6), delay);
    }

    private static void oneToFiveAreSettled(Checks c) {
        for (int many = 1; many <= 5; many++) {
            RoomsOfAir x = Checks.withText("bear 0 99;" + LIGHT.repeat(12));
            c.due("the first " + many, x.settle((1 << many) - 1), 0);
            c.due("the last " + many, x.settle((1 << many) - 1 << 12 - many), 0);
        }
        RoomsOfAir x = Checks.withText(LIGHT.repeat(12));
        c.due("six", x.settle(0b111111), BAD);
        // Seven stay in slot 0, which bears nine: two of the five may, too, and three go one slot later.
        c.due("the first, the last and others", x.settle(0b100101010001), 3);
    }

    private static void theOthersStay(Checks c) {
        RoomsOfAir x = Checks.withText("bear 0 1;flight 0 1 0 9 way 0 1;flight 1 1 0 1 way 0 1;");
        x.choose(1, 0, 1);
        c.due("between the other's slots", x.settle(1), 0);
        choiceIs(c, x, 1, 0, 1);
        x.choose(1, 0, 0);
        c.due("the dearer one gives way", x.settle(1), 9);
        choiceIs(c, x, 1, 0, 0);
    }

    private static void asMuchAsSafeIsNotTooMuch(Checks c) {
        RoomsOfAir x = Checks.withText("bear 0 5;flight 0 3 0 1 way 0 1;flight 1 2 0 1 way 0 1;");
        c.due("as much", x.settle(3), 0);
        Checks.readText(x, "bear 0 4;");
        c.due("one above", x.settle(3), 1);
        Checks.readText(x, "bear 0 3;");
        c.due("each alone", x.settle(3), 1);
        Checks.readText(x, "bear 0 2;");
        c.due("one of them never", x.settle(3), NONE);
        c.due("the other alone, beside it", x.settle(2), 1);
        RoomsOfAir y = Checks.withText("storm 1 0 0 4 0;flight 0 9 0 1 way 0 1;");
        c.due("in world 0", y.settle(1), 0);
        y.look(3);
        c.due("in all worlds looked at", y.settle(1), 4);
        Checks.readText(y, "storm 1 0 4 5 8;");
        c.due("a storm to the last delay", y.settle(1), NONE);
    }

    private static void whereTheseFlightsAre(Checks c) {
        RoomsOfAir x = Checks.withText("bear 0 0;bear 1 1;flight 0 9 0 0 way 0 4;flight 1 1 0 1 way 1 1;");
        c.due("too much elsewhere is no matter", x.settle(2), 0);
        c.due("it is there still", x.all(0), 36);
        RoomsOfAir y = Checks.withText("bear 0 1;flight 0 2 0 0 way 0 2;flight 1 1 0 1 way 0 1;");
        c.due("too much before it comes", y.settle(2), 2);
        RoomsOfAir z = Checks.withText("bear 1 0;flight 0 9 40 1 way 0 4,0 3,1 4;");
        c.due("beyond slot 47 nothing is too much", z.settle(1), 1);
        choiceIs(c, z, 0, 0, 1);
        RoomsOfAir again = Checks.withText("bear 0 1;flight 0 1 0 1 way 0 1,1 1,0 1;");
        c.due("its own earlier place is free", again.settle(1), 0);
        again.choose(0, 0, 2);
        c.due("wherever it was", again.settle(1), 0);
    }

    private static void splitsDoNotHelp(Checks c) {
        RoomsOfAir x = Checks.withText("bear 0 2;flight 0 3 0 1 way 0 1;");
        Checks.putSheet(x, 0, 9, 9, 9, 9, 9, 9);
        x.staff(0, 0, 0, 6);
        c.due("a split would do", x.split(NONE), 2);
        c.due("but it is not counted", x.settle(1), NONE);
    }

    private static void ofLeastCostTogether(Checks c) {
        RoomsOfAir x = Checks.withText("bear 0 1;flight 0 1 0 5 way 0 1;flight 1 1 0 4 way 0 1;flight 2 1 0 3 way 0 1;");
        c.due("the cheapest waits longest", x.settle(7), 4 + 6);
        choiceIs(c, x, 0, 0, 0);
        choiceIs(c, x, 1, 0, 1);
        choiceIs(c, x, 2, 0, 2);
        RoomsOfAir y = Checks.withText("bear 0 1;flight 0 1 0 11 way 0 1 way 1 1;flight 1 1 0 99 way 0 1;");
        c.due("a way for ten", y.settle(3), 10);
        choiceIs(c, y, 0, 1, 0);
        RoomsOfAir z = Checks.withText("bear 0 0;bear 1 0;storm 1 2 0 4 0;flight 0 1 0 99 way 0 1 way 1 1 way 2 1;");
        z.look(2);
        c.due("the greatest cost that one can have", z.settle(1), 416);
        c.due("already the least", z.settle(1), 416);
    }

    private static void theLeastForTheFirst(Checks c) {
        RoomsOfAir x = Checks.withText("bear 0 1;" + "flight 0 1 0 2 way 0 1;".repeat(5));
        c.due("five in a row", x.settle(31), 2 * (1 + 2 + 3 + 4));
        for (int flight = 0; flight < 5; flight++) {
            choiceIs(c, x, flight, 0, flight);
        }
        RoomsOfAir y = Checks.withText("bear 0 0;storm 1 0 0 1 0;flight 0 1 0 0 way 1 1 way 1 1;flight 1 1 0 10 way 2 1 way 3 1;");
        y.choose(0, 0, 3);
        c.due("the least delay of several", y.settle(1), 0);
        choiceIs(c, y, 0, 0, 0);
        Checks.readText(y, "storm 1 2 0 1 0;");
        y.look(2);
        c.due("way 0 late, way 1 in time: cost alike", y.settle(2), 10);
        choiceIs(c, y, 1, 0, 1);
        RoomsOfAir z = Checks.withText("bear 4 1;flight 0 1 0 10 way 4 1 way 5 1;flight 1 1 0 10 way 4 1 way 5 1;");
        c.due("one of them, by way or delay", z.settle(3), 10);
        choiceIs(c, z, 0, 0, 0);
        choiceIs(c, z, 1, 0, 1);
    }

    private static void theyHaveTheseChoices(Checks c) {
        RoomsOfAir x = Checks.withText("bear 0 0;flight 0 1 0 0 way 0 1 way 1 1;");
        c.due("cost", x.settle(1), 10);
        choiceIs(c, x, 0, 1, 0);
        c.due("all cost", x.all(1), 10);
        c.due("its load", x.load(1, 0, 0), 1);
        c.due("no load where it was", x.load(0, 0, 0), 0);
    }

    private static void thereAreNone(Checks c) {
        RoomsOfAir x = Checks.withText("bear 0 0;flight 0 1 0 1 way 1 1 way 0 1;flight 1 1 0 1 way 0 1;");
        x.choose(0, 1, 3);
        x.choose(1, 0, 4);
        c.due("for both", x.settle(3), NONE);
        choiceIs(c, x, 0, 1, 3);
        choiceIs(c, x, 1, 0, 4);
        c.due("for the second", x.settle(2), NONE);
        choiceIs(c, x, 1, 0, 4);
        RoomsOfAir y = Checks.withText("bear 0 1;" + "flight 0 1 0 0 way 0 1;".repeat(6));
        c.due("five have room", y.settle(31), NONE);
        y.choose(5, 0, 4);
        c.due("four beside a fixed one", y.settle(15), NONE);
        Checks.readText(y, "bear 0 2;");
        c.due("more room", y.settle(15), 0);
    }

    private static void settleIsBad(Checks c) {
        RoomsOfAir none = new RoomsOfAir();
        int[] sets = {0, 1, 1 << 11, 1 << 12, -1, Integer.MIN_VALUE, Integer.MAX_VALUE};
        for (int set : sets) {
            c.due("without flights " + set, none.settle(set), BAD);
        }
        RoomsOfAir x = Checks.withText(LIGHT.repeat(12));
        c.due("no flight", x.settle(0), BAD);
        c.due("flight 12", x.settle(1 << 12), BAD);
        c.due("flight 12 among others", x.settle(1 << 12 | 1), BAD);
        c.due("flight 31", x.settle(1 << 31), BAD);
        c.due("flight 31 among others", x.settle(1 << 31 | 1), BAD);
        c.due("six", x.settle(0b111111), BAD);
        c.due("six of the last", x.settle(0b111111000000), BAD);
        c.due("all", x.settle(0xfff), BAD);
        c.due("the last that is there", x.settle(1 << 11), 1);
        RoomsOfAir two = Checks.withText(LIGHT + LIGHT);
        c.takesOnly("set of two flights", 1, 3, BAD, two::settle);
    }

    /** Of airlines 0 and 1; the first costs nothing by delay, the second has a delay of 2. */
    private static RoomsOfAir withASwap() {
        RoomsOfAir x = Checks.withText("flight 0 1 0 0 way 1 1 way 2 1;flight 1 1 0 5 way 3 1 way 4 1;");
        x.choose(0, 1, 0);
        x.choose(1, 1, 2);
        return x;
    }

    private static void delaysAreExchanged(Checks c) {
        RoomsOfAir x = withASwap();
        c.due("swap", x.swap(), 1);
        choiceIs(c, x, 0, 1, 2);
        choiceIs(c, x, 1, 1, 0);
        RoomsOfAir both = Checks.withText("flight 0 1 0 0 way 1 1;flight 1 1 0 9 way 2 1;");
        both.choose(0, 0, 1);
        both.choose(1, 0, 4);
        c.due("both are late", both.swap(), 1);
        choiceIs(c, both, 0, 0, 4);
        choiceIs(c, both, 1, 0, 1);
    }

    private static void tooMuchIsNotMore(Checks c) {
        String text = "flight 0 2 0 0 way 0 1;flight 1 1 0 5 way 1 1;flight 2 1 1 0 way 0 1;";
        RoomsOfAir x = Checks.withText("bear 0 3;" + text);
        x.choose(1, 0, 1);
        c.due("as much as is safe", x.harmless(0, 1), 1);
        Checks.readText(x, "bear 0 2;");
        c.due("one more", x.harmless(0, 1), 0);
        Checks.readText(x, "storm 1 0 0 1 1;storm 1 0 1 2 2;");
        x.look(2);
        c.due("one more there, one less here", x.harmless(0, 1), 1);
        Checks.readText(x, "storm 1 0 0 1 0;");
        c.due("less than before", x.harmless(0, 1), 1);
        c.due("others are too much all the same", x.all(0), 2);
    }

    private static void noCostIsMore(Checks c) {
        for (int rate = 0; rate <= 1; rate++) {
            RoomsOfAir x = Checks.withText("flight 0 1 0 " + rate + " way 1 1;flight 1 1 0 99 way 2 1;");
            x.choose(1, 0, 1);
            c.due("the first at rate " + rate, x.harmless(0, 1), 1 - rate);
            c.due("the other way round at rate " + rate, x.harmless(1, 0), 1 - rate);
            c.due("swapped at rate " + rate, x.swap(), rate == 0 ? 1 : NONE);
        }
    }

    private static void oneCostIsLess(Checks c) {
        RoomsOfAir free = Checks.withText("flight 0 1 0 0 way 1 1;flight 1 1 0 0 way 2 1;");
        free.choose(1, 0, 4);
        c.due("both cost as before", free.harmless(0, 1), 0);
        RoomsOfAir alike = Checks.withText("flight 0 1 0 9 way 1 1;flight 1 1 0 9 way 2 1;");
        alike.choose(0, 0, 3);
        alike.choose(1, 0, 3);
        c.due("one delay for both", alike.harmless(0, 1), 0);
        c.due("no swap", alike.swap(), NONE);
        c.due("one is less by one", withLeastGain().harmless(0, 1), 1);
    }

    private static RoomsOfAir withLeastGain() {
        RoomsOfAir x = Checks.withText("flight 0 1 0 0 way 1 1;flight 1 1 0 1 way 2 1;");
        x.choose(1, 0, 1);
        return x;
    }

    private static void harmlessChangesNothing(Checks c) {
        RoomsOfAir x = withASwap();
        c.due("harmless", x.harmless(0, 1), 1);
        choiceIs(c, x, 0, 1, 0);
        choiceIs(c, x, 1, 1, 2);
        c.due("still", x.harmless(0, 1), 1);
        x.choose(1, 1, 0);
        c.due("no longer", x.harmless(0, 1), 0);
    }

    private static void harmlessIsBad(Checks c) {
        String text = "flight 0 1 0 0 way 1 1;flight 1 1 0 0 way 1 1;flight 2 1 0 0 way 1 1;flight 3 1 0 0 way 1 1;";
        c.takesOnly("a", 0, 2, BAD, a -> Checks.withText(text).harmless(a, 3));
        c.takesOnly("b", 1, 3, BAD, b -> Checks.withText(text).harmless(0, b));
        for (int airline = 0; airline < 4; airline++) {
            RoomsOfAir x = Checks.withText(("flight " + airline + " 1 0 0 way 1 1;").repeat(2));
            c.due("of one airline", x.harmless(0, 1), BAD);
            c.due("with itself", x.harmless(0, 0), BAD);
        }
        c.due("without flights", new RoomsOfAir().harmless(0, 1), BAD);
    }

    private static void theFirstSwap(Checks c) {
        RoomsOfAir x = Checks.withText("flight 0 1 0 0 way 1 1;flight 0 1 0 0 way 1 1;flight 1 1 0 1 way 1 1;flight 2 1 0 1 way 1 1;");
        x.choose(2, 0, 1);
        x.choose(3, 0, 2);
        c.due("the least a, then the least b", x.swap(), 2);
        c.due("then the next b", x.swap(), 3);
        c.due("then the next a", x.swap(), 103);
        c.due("then none", x.swap(), NONE);
        x.choose(2, 0, 4);
        x.choose(0, 0, 4);
        c.due("a is 1", x.swap(), 102);
        RoomsOfAir last = Checks.withText("flight 0 1 0 9 way 1 1;".repeat(10) + "flight 1 1 0 5 way 1 1;flight 2 1 0 0 way 1 1;");
        last.choose(10, 0, 1);
        c.due("the last two", last.swap(), 1011);
        RoomsOfAir ends = Checks.withText("flight 3 1 0 0 way 1 1;".repeat(11) + "flight 0 1 0 5 way 1 1;");
        ends.choose(11, 0, 1);
        c.due("the first and the last", ends.swap(), 11);
    }

    private static void thereIsNoSwap(Checks c) {
        c.due("without flights", new RoomsOfAir().swap(), NONE);
        c.due("of one flight", Checks.withText(LIGHT).swap(), NONE);
        RoomsOfAir one = Checks.withText("flight 2 1 0 0 way 1 1;flight 2 1 0 5 way 1 1;");
        one.choose(1, 0, 3);
        c.due("of one airline", one.swap(), NONE);
        choiceIs(c, one, 1, 0, 3);
        RoomsOfAir x = withASwap();
        x.swap();
        c.due("it is done once", x.swap(), NONE);
        choiceIs(c, x, 0, 1, 2);
    }

    /** Flights of airlines as told; the first have the greatest delays until there is no more. */
    private static RoomsOfAir withDelays(int delays, int... airlines) {
        StringBuilder text = new StringBuilder();
        for (int airline : airlines) {
            text.append("flight ").append(airline).append(" 1 0 0 way 1 1;");
        }
        RoomsOfAir x = Checks.withText(text.toString());
        int left = delays;
        for (int i = 0; i < airlines.length; i++) {
            int delay = Math.min(4, left);
            x.choose(i, 0, delay);
            left -= delay;
        }
        return x;
    }

    private static void partsAre(Checks c, RoomsOfAir x, int what, int... due) {
        for (int airline = 0; airline < 4; airline++) {
            c.due("airline " + airline, x.airline(airline, what), due[airline]);
        }
    }

    private static void whatIsLeftOfDelays(Checks c) {
        partsAre(c, withDelays(0, 0, 1, 2, 3), 2, 0, 0, 0, 0);
        partsAre(c, withDelays(3, 2), 2, 0, 0, 3, 0);
        partsAre(c, withDelays(4, 0, 1, 2, 3), 2, 1, 1, 1, 1);
        partsAre(c, withDelays(7, 0, 1, 1, 1, 1, 2, 2), 2, 1, 4, 2, 0);
        partsAre(c, withDelays(5, 0, 1, 1, 1, 3, 3, 3), 2, 1, 2, 0, 2);
        partsAre(c, withDelays(12, 2, 2, 2), 2, 0, 0, 12, 0);
        partsAre(c, withDelays(48, 0, 1, 2, 3, 0, 1, 2, 3, 0, 1, 2, 3), 2, 12, 12, 12, 12);
    }

    private static void equalRestsOfDelays(Checks c) {
        partsAre(c, withDelays(1, 0, 1, 2, 3), 2, 1, 0, 0, 0);
        partsAre(c, withDelays(2, 3, 2, 1, 0), 2, 1, 1, 0, 0);
        partsAre(c, withDelays(3, 3, 2, 1, 0), 2, 1, 1, 1, 0);
        partsAre(c, withDelays(1, 1, 3), 2, 0, 1, 0, 0);
        // D f modulo n: 2, 2, 0, 1 of 5 for airlines with 1, 1, 0, 3 flights and D of 2.
        partsAre(c, withDelays(2, 0, 1, 3, 3, 3), 2, 1, 0, 0, 1);
        // A greater number with a greater rest goes ahead.
        partsAre(c, withDelays(1, 0, 3, 3), 2, 0, 0, 0, 1);
    }

    private static void fairFromNoneToFar(Checks c) {
        c.due("without flights", new RoomsOfAir().all(3), 0);
        c.due("without delays", withDelays(0, 0, 1).all(3), 0);
        c.due("of one airline", withDelays(4, 3, 3).all(3), 0);
        c.due("all is the first's", withDelays(4, 0, 1, 2, 3).all(3), 3 + 1 + 1 + 1);
        c.due("one for each", withDelays(8, 0, 1).all(3), 0);
        c.due("one that cannot be parted", withDelays(1, 3, 0).all(3), 2);
    }

    private static void blameForNothing(Checks c) {
        partsAre(c, new RoomsOfAir(), 3, 0, 0, 0, 0);
        RoomsOfAir x = Checks.withText("bear 0 3;flight 0 1 0 0 way 0 1;flight 1 2 0 0 way 0 1;");
        partsAre(c, x, 3, 0, 0, 0, 0);
        Checks.readText(x, "bear 0 0;");
        partsAre(c, x, 3, 1, 2, 0, 0);
        partsAre(c, Checks.withText("bear 0 0;flight 2 1 0 0 way 0 1;"), 3, 0, 0, 1, 0);
        RoomsOfAir twelve = Checks.withText("bear 0 0;" + "flight 3 9 0 0 way 0 1;".repeat(12));
        partsAre(c, twelve, 3, 0, 0, 0, 108);
        RoomsOfAir ends = Checks.withText("bear 0 0;bear 7 0;flight 2 5 0 0 way 0 1;flight 3 6 40 0 way 1 4,1 3,7 1;");
        partsAre(c, ends, 3, 0, 0, 5, 6);
        ends.choose(1, 0, 1);
        partsAre(c, ends, 3, 0, 0, 5, 0);
    }

    private static void whatIsLeftOfBlame(Checks c) {
        // 1 too much of four alike, slot by slot: the least airline has it each time.
        RoomsOfAir x = Checks.withText("bear 0 3;flight 3 1 0 0 way 0 2;flight 2 1 0 0 way 0 2;flight 1 1 0 0 way 0 2;flight 0 1 0 0 way 0 2;");
        partsAre(c, x, 3, 2, 0, 0, 0);
        // 3 of weights 1, 0, 2, 4: 3, 6, 12 by 7 are 0, 0, 1 with rests 3, 6, 5.
        RoomsOfAir y = Checks.withText("bear 0 4;flight 0 1 0 0 way 0 1;flight 2 2 0 0 way 0 1;flight 3 4 0 0 way 0 1;");
        partsAre(c, y, 3, 0, 0, 1, 2);
        // Each room and slot is cut for itself: 1 of two alike, in two rooms.
        RoomsOfAir z = Checks.withText("bear 0 1;bear 1 1;flight 1 1 0 0 way 0 1,1 1;flight 3 1 0 0 way 0 1,1 1;");
        partsAre(c, z, 3, 0, 2, 0, 0);
        RoomsOfAir all = Checks.withText("bear 0 0;flight 0 9 0 0 way 0 1;flight 0 9 0 0 way 0 1;flight 3 9 0 0 way 0 1;");
        partsAre(c, all, 3, 18, 0, 0, 9);
    }

    private static void airlinesFromNoneToAll(Checks c) {
        RoomsOfAir x = Checks.withText("flight 3 9 0 99 way 0 1 way 0 1 way 0 1;".repeat(6));
        Checks.readText(x, "bear 0 0;" + "flight 3 9 0 99 way 0 1 way 0 1 way 0 1;".repeat(6));
        int[] first = {12, 0, 0, 108, 0};
        for (int what = 0; what < first.length; what++) {
            partsAre(c, x, what, 0, 0, 0, first[what]);
        }
        for (int flight = 0; flight < 12; flight++) {
            x.choose(flight, 2, 4);
        }
        int[] last = {12, 48, 48, 108, 12 * 416};
        for (int what = 0; what < last.length; what++) {
            partsAre(c, x, what, 0, 0, 0, last[what]);
        }
        RoomsOfAir y = Checks.withText("flight 0 1 0 3 way 1 1;flight 1 1 0 5 way 1 1;flight 0 1 0 7 way 1 1;");
        y.choose(0, 0, 1);
        y.choose(1, 0, 1);
        y.choose(2, 0, 1);
        partsAre(c, y, 4, 10, 5, 0, 0);
    }

    private static void airlineIsBad(Checks c) {
        c.takesOnly("airline", 0, 3, BAD, airline -> withDelays(3, 0, 1).airline(airline, 0));
        c.takesOnly("what", 0, 4, BAD, what -> withDelays(3, 0, 1).airline(0, what));
        c.takesOnly("airline without flights", 0, 3, BAD, airline -> new RoomsOfAir().airline(airline, 4));
    }

    private static void withoutFlights(Checks c) {
        for (int what = 0; what <= 4; what++) {
            partsAre(c, new RoomsOfAir(), what, 0, 0, 0, 0);
        }
        RoomsOfAir x = withDelays(4, 2);
        for (int what = 0; what <= 4; what++) {
            c.due("an airline without flights, " + what, x.airline(1, what), 0);
        }
    }
}
