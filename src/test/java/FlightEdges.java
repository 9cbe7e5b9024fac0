/** Edges of flights and their choices: promises 13 to 16, and what the terms tell of them. */
final class FlightEdges {
    private static final int NONE = RoomsOfAir.NONE, BAD = RoomsOfAir.BAD;
    private static final int MIN = Integer.MIN_VALUE, MAX = Integer.MAX_VALUE;
    private static final String LEAST = "flight 0 1 0 0 way 0 1;";
    private static final String GREATEST = "flight 3 9 40 99 way 7 4,7 4,7 4,7 4,7 4 way 7 4,7 4,7 4,7 4,7 4 way 7 4,7 4,7 4,7 4,7 4;";

    private FlightEdges() {
    }

    static void addTo(Edges edges) {
        edges.of(Edges.TERMS, "FLIGHTS 0 .. 11 (12 at most)", FlightEdges::thereAreTwelveFlights);
        edges.of(Edges.TERMS, "AIRLINE (0 to 3)", c -> isToldFrom(c, "flight @ 1 0 0 way 0 1;", 0, 0, 3));
        edges.of(Edges.TERMS, "WEIGHT (1 to 9)", c -> isToldFrom(c, "flight 0 @ 0 0 way 0 1;", 1, 1, 9));
        edges.of(Edges.TERMS, "SLOT at which it would begin (0 to 40)", c -> isToldFrom(c, "flight 0 1 @ 0 way 0 1;", 2, 0, 40));
        edges.of(Edges.TERMS, "RATE (0 to 99: cost of a SLOT of delay)", c -> isToldFrom(c, "flight 0 1 0 @ way 0 1;", 3, 0, 99));
        edges.of(Edges.TERMS, "1 to 3 WAYS", FlightEdges::aFlightHasOneToThreeWays);
        edges.of(Edges.TERMS, "each of 1 to 5 LEGS", FlightEdges::aWayHasOneToFiveLegs);
        edges.of(Edges.TERMS, "a ROOM and how many SLOTS in it (1 to 4)", FlightEdges::aLegTakesOneToFourSlots);
        edges.of(Edges.TERMS, "a WAY and a DELAY (0 to 4)", FlightEdges::aDelayIsNoneToFour);
        edges.of(Edges.TERMS, "at first WAY 0, DELAY 0", FlightEdges::theFirstChoice);
        edges.of(Edges.TERMS, "one behind the other, from its SLOT and DELAY on", FlightEdges::legsOneBehindTheOther);
        edges.of(Edges.TERMS, "beyond SLOT 47 it is nowhere", FlightEdges::beyondTheLastSlotItIsNowhere);
        edges.of(Edges.TERMS, "RATE times DELAY, and 10 times the number of the WAY", FlightEdges::theLeastAndTheGreatestCost);
        edges.of(13, "BAD.", FlightEdges::toldIsBad);
        edges.of(14, "NONE: there are not so many.", FlightEdges::thereAreNotSoManyLegs);
        edges.of(14, "BAD: FLIGHT, WAY, what.", FlightEdges::legIsBad);
        edges.of(15, "BAD: FLIGHT, WAY, DELAY.", FlightEdges::chooseIsBad);
        edges.of(16, "; NONE.", FlightEdges::whereItIsNowhere);
        edges.of(16, "BAD.", FlightEdges::atIsBad);
    }

    private static RoomsOfAir withTwo() {
        return Checks.withText("flight 0 1 0 7 way 0 1 way 1 1;flight 1 2 3 4 way 5 2,6 1 way 7 1 way 0 4;");
    }

    private static void thereAreTwelveFlights(Checks c) {
        c.takesOnly("flight", 0, 11, BAD, flight -> Checks.withText(LEAST.repeat(12)).told(flight, 0));
        c.takesOnly("flight of two", 0, 1, BAD, flight -> withTwo().told(flight, 0));
        c.due("of none", new RoomsOfAir().told(0, 0), BAD);
        RoomsOfAir x = new RoomsOfAir();
        for (int flight = 0; flight < 12; flight++) {
            Checks.readText(x, "flight 0 1 " + flight + " 0 way 0 1;");
        }
        for (int flight = 0; flight < 12; flight++) {
            c.due("each its own, " + flight, x.told(flight, 2), flight);
            c.due("in its slot, " + flight, x.at(flight, flight), 0);
        }
        c.due("the thirteenth", Checks.readText(x, LEAST), -1000100);
        c.due("12 they stay", x.count(1), 12);
    }

    private static void isToldFrom(Checks c, String text, int what, int least, int most) {
        for (int v = least; v <= most; v++) {
            RoomsOfAir x = Checks.withText(text.replace("@", String.valueOf(v)));
            c.due("told", x.told(0, what), v);
        }
        int place = text.indexOf('@');
        if (least > 0) {
            c.due("one below", Checks.readText(new RoomsOfAir(), text.replace("@", String.valueOf(least - 1))), -1000100 - place);
        }
        c.due("one above", Checks.readText(new RoomsOfAir(), text.replace("@", String.valueOf(most + 1))), -1000100 - place);
    }

    private static void aFlightHasOneToThreeWays(Checks c) {
        for (int ways = 1; ways <= 3; ways++) {
            RoomsOfAir x = Checks.withText("flight 0 1 0 0" + " way 0 1".repeat(ways) + ";");
            c.due("told", x.told(0, 4), ways);
            c.due("the last", x.choose(0, ways - 1, 0), 10 * (ways - 1));
            c.due("one more", x.choose(0, ways, 0), BAD);
        }
        RoomsOfAir x = new RoomsOfAir();
        c.due("none", Checks.readText(x, "flight 0 1 0 0;"), -1000114);
        c.due("four", Checks.readText(x, "flight 0 1 0 0" + " way 0 1".repeat(4) + ";"), -1000139);
    }

    private static void aWayHasOneToFiveLegs(Checks c) {
        for (int legs = 1; legs <= 5; legs++) {
            RoomsOfAir x = Checks.withText("flight 0 1 0 0 way 0 1" + ",3 1".repeat(legs - 1) + ";");
            c.due("the last", x.leg(0, 0, legs - 1, 0), legs == 1 ? 0 : 3);
            c.due("one more", x.leg(0, 0, legs, 0), NONE);
            c.due("it takes as many slots", x.at(0, legs - 1), legs == 1 ? 0 : 3);
            c.due("and no more", x.at(0, legs), NONE);
        }
        RoomsOfAir x = Checks.withText("flight 0 1 0 0 way 0 1 way 1 2,2 3 way 3 4,4 1,5 2,6 3,7 4;");
        int[][] rooms = {{0}, {1, 2}, {3, 4, 5, 6, 7}};
        int[][] slots = {{1}, {2, 3}, {4, 1, 2, 3, 4}};
        for (int way = 0; way < 3; way++) {
            for (int i = 0; i < rooms[way].length; i++) {
                c.due("room of leg " + i + " of way " + way, x.leg(0, way, i, 0), rooms[way][i]);
                c.due("slots of leg " + i + " of way " + way, x.leg(0, way, i, 1), slots[way][i]);
            }
        }
        x.choose(0, 2, 0);
        c.due("the last slot of the last leg of the last way", x.at(0, 13), 7);
        c.due("behind it", x.at(0, 14), NONE);
    }

    private static void aLegTakesOneToFourSlots(Checks c) {
        for (int slots = 1; slots <= 4; slots++) {
            RoomsOfAir x = Checks.withText("flight 0 1 0 0 way 7 " + slots + ",0 " + slots + ";");
            c.due("told", x.leg(0, 0, 0, 1), slots);
            c.due("its last slot", x.at(0, slots - 1), 7);
            c.due("the next leg", x.at(0, slots), 0);
            c.due("its last slot", x.at(0, 2 * slots - 1), 0);
            c.due("behind it", x.at(0, 2 * slots), NONE);
        }
    }

    private static void aDelayIsNoneToFour(Checks c) {
        c.takesOnly("delay", 0, 4, BAD, delay -> withTwo().choose(0, 0, delay));
        for (int delay = 0; delay <= 4; delay++) {
            RoomsOfAir x = withTwo();
            x.choose(1, 1, delay);
            c.due("told", x.told(1, 6), delay);
            c.due("it is there then", x.at(1, 3 + delay), 7);
            c.due("not earlier", x.at(1, 2 + delay), NONE);
        }
    }

    private static void theFirstChoice(Checks c) {
        RoomsOfAir x = withTwo();
        for (int flight = 0; flight < 2; flight++) {
            c.due("way", x.told(flight, 5), 0);
            c.due("delay", x.told(flight, 6), 0);
            c.due("cost", x.told(flight, 7), 0);
        }
        x.choose(1, 2, 4);
        Checks.readText(x, LEAST);
        c.due("way of a later one", x.told(2, 5), 0);
        c.due("delay of a later one", x.told(2, 6), 0);
        c.due("the earlier one keeps its choice", x.told(1, 6), 4);
    }

    private static void legsOneBehindTheOther(Checks c) {
        RoomsOfAir x = Checks.withText("flight 0 1 10 0 way 3 2,3 1,4 1,3 4;");
        x.choose(0, 0, 3);
        int[] due = {NONE, 3, 3, 3, 4, 3, 3, 3, 3, NONE};
        for (int i = 0; i < due.length; i++) {
            c.due("slot " + (12 + i), x.at(0, 12 + i), due[i]);
        }
    }

    private static void beyondTheLastSlotItIsNowhere(Checks c) {
        RoomsOfAir x = Checks.withText("bear 7 0;" + GREATEST);
        c.due("its first slot", x.at(0, 40), 7);
        c.due("the last slot", x.at(0, 47), 7);
        c.due("all that is too much", x.all(0), 8 * 9);
        c.due("rooms and slots", x.all(4), 8);
        c.due("the first slot is free", x.load(7, 0, 0), 0);
        c.due("known in the last", x.known(7, 47, 0), 9);
        x.choose(0, 2, 4);
        c.due("delayed, its first slot", x.at(0, 44), 7);
        c.due("delayed, ahead of it", x.at(0, 43), NONE);
        c.due("delayed, all that is too much", x.all(0), 4 * 9);
        RoomsOfAir y = Checks.withText("flight 0 1 40 0 way 0 4,0 3,1 1,2 1;");
        c.due("a leg in the last slot", y.at(0, 47), 1);
        y.choose(0, 0, 1);
        c.due("a leg driven out", y.at(0, 47), 0);
        c.due("nor is it in the next room", y.load(2, 0, 0), 0);
    }

    private static void theLeastAndTheGreatestCost(Checks c) {
        RoomsOfAir x = Checks.withText(LEAST + GREATEST);
        c.due("the least", x.choose(0, 0, 4), 0);
        c.due("the greatest", x.choose(1, 2, 4), 99 * 4 + 20);
        c.due("told", x.told(1, 7), 416);
        c.due("a way alone", x.choose(1, 2, 0), 20);
        c.due("a delay alone", x.choose(1, 0, 1), 99);
        c.due("together", x.all(1), 99);
    }

    private static void toldIsBad(Checks c) {
        c.takesOnly("flight", 0, 1, BAD, flight -> withTwo().told(flight, 7));
        c.takesOnly("what", 0, 7, BAD, what -> withTwo().told(1, what));
        c.due("no flight", new RoomsOfAir().told(0, 0), BAD);
    }

    private static void thereAreNotSoManyLegs(Checks c) {
        RoomsOfAir x = withTwo();
        int[][] legs = {{0, 0, 1}, {0, 1, 1}, {1, 0, 2}, {1, 1, 1}, {1, 2, 1}};
        for (int[] row : legs) {
            for (int what = 0; what <= 1; what++) {
                c.holds("the last", x.leg(row[0], row[1], row[2] - 1, what) >= 0);
                c.due("one more", x.leg(row[0], row[1], row[2], what), NONE);
                c.due("far more", x.leg(row[0], row[1], MAX, what), NONE);
            }
        }
        c.due("below 0", x.leg(0, 0, -1, 0), NONE);
        c.due("far below 0", x.leg(0, 0, MIN, 1), NONE);
        RoomsOfAir y = Checks.withText(GREATEST);
        c.due("the fifth", y.leg(0, 0, 4, 0), 7);
        c.due("the first of the next way is no sixth", y.leg(0, 0, 5, 0), NONE);
    }

    private static void legIsBad(Checks c) {
        c.takesOnly("flight", 0, 1, BAD, flight -> withTwo().leg(flight, 0, 0, 0));
        c.takesOnly("way of two", 0, 1, BAD, way -> withTwo().leg(0, way, 0, 0));
        c.takesOnly("way of three", 0, 2, BAD, way -> withTwo().leg(1, way, 0, 0));
        c.takesOnly("what", 0, 1, BAD, what -> withTwo().leg(0, 0, 0, what));
        c.due("flight ahead of NONE", withTwo().leg(2, 0, 9, 0), BAD);
        c.due("way ahead of NONE", withTwo().leg(0, 2, 9, 0), BAD);
        c.due("what ahead of NONE", withTwo().leg(0, 0, 9, 2), BAD);
    }

    private static void chooseIsBad(Checks c) {
        c.takesOnly("flight", 0, 1, BAD, flight -> withTwo().choose(flight, 0, 0));
        c.takesOnly("way of two", 0, 1, BAD, way -> withTwo().choose(0, way, 0));
        c.takesOnly("way of three", 0, 2, BAD, way -> withTwo().choose(1, way, 4));
        c.takesOnly("delay", 0, 4, BAD, delay -> withTwo().choose(1, 2, delay));
        RoomsOfAir x = withTwo();
        x.choose(1, 1, 2);
        c.due("a wrong way", x.choose(1, 3, 4), BAD);
        c.due("a wrong delay", x.choose(1, 2, 5), BAD);
        c.due("its way stays", x.told(1, 5), 1);
        c.due("its delay stays", x.told(1, 6), 2);
    }

    private static void whereItIsNowhere(Checks c) {
        RoomsOfAir x = withTwo();
        c.due("ahead of its slot", x.at(1, 2), NONE);
        c.due("its first slot", x.at(1, 3), 5);
        c.due("its last slot", x.at(1, 5), 6);
        c.due("behind its last", x.at(1, 6), NONE);
        c.due("the first of all", x.at(1, 0), NONE);
        c.due("the last of all", x.at(1, 47), NONE);
    }

    private static void atIsBad(Checks c) {
        c.takesOnly("flight", 0, 1, BAD, flight -> withTwo().at(flight, 0));
        c.takesOnly("slot", 0, 47, BAD, slot -> withTwo().at(0, slot));
        c.due("no flight", new RoomsOfAir().at(0, 0), BAD);
    }
}
