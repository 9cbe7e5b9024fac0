/** Edges of loads, what was known, and splits: promises 17 to 20, and what the terms tell of them. */
final class LoadEdges {
    private static final int NONE = RoomsOfAir.NONE, BAD = RoomsOfAir.BAD, MAX = Integer.MAX_VALUE;

    private LoadEdges() {
    }

    static void addTo(Edges edges) {
        edges.of(Edges.TERMS, "WEIGHTS of the FLIGHTS that are there, added", LoadEdges::loadsFromNoneToAll);
        edges.of(Edges.TERMS, "by how much LOAD is above SAFE (0, if it is not)", LoadEdges::tooMuchIsWhatIsAbove);
        edges.of(17, "BAD.", LoadEdges::loadIsBad);
        edges.of(18, "4 ROOMS and SLOTS with TOO MUCH, 5 the greatest LOAD.", LoadEdges::ofAllFromNoneToMost);
        edges.of(18, "BAD.", LoadEdges::allIsBad);
        edges.of(Edges.TERMS, "of FLIGHTS that came at m or earlier, all with WAY 0, DELAY 0.", LoadEdges::knownAtAMoment);
        edges.of(19, "BAD: ROOM, SLOT, moment below 0.", LoadEdges::knownIsBad);
        edges.of(Edges.TERMS, "ROOMS 0 to 5 may be SPLIT in a SLOT", LoadEdges::sixRoomsMayBeSplit);
        edges.of(Edges.TERMS, "as many as STAFF in it", LoadEdges::asManyAsStaff);
        edges.of(Edges.TERMS, "half as much again (SAFE, and SAFE by 2, cut)", LoadEdges::halfAsMuchAgainCut);
        edges.of(Edges.TERMS, "TOO MUCH of all ROOMS (also of 6, 7) in all SLOTS", LoadEdges::harmOfAllRooms);
        edges.of(Edges.TERMS, "it is SPLIT and was not in the SLOT ahead, or the other way round", LoadEdges::everyChangeHarms);
        edges.of(Edges.TERMS, "(before SLOT 0 none is)", LoadEdges::changesAtBothEnds);
        edges.of(Edges.TERMS, "of least HARM; of several that with the least set in SLOT 0, then 1, ..", LoadEdges::theBestAmongEquals);
        edges.of(20, "the set in a SLOT (0 to 47)", LoadEdges::splitTakesEverySlot);
        edges.of(20, "of NONE its HARM.", LoadEdges::splitOfNoneIsTheHarm);
        edges.of(20, "BAD.", LoadEdges::splitIsBad);
    }

    private static RoomsOfAir withHeavy(int flights, int bears) {
        RoomsOfAir x = Checks.withText("flight 0 9 0 0 way 0 1;".repeat(flights));
        Checks.readText(x, "bear 0 " + bears + ";");
        return x;
    }

    private static void loadsFromNoneToAll(Checks c) {
        c.due("of no flight", new RoomsOfAir().load(0, 0, 0), 0);
        for (int flights = 1; flights <= 12; flights++) {
            c.due(flights + " flights", withHeavy(flights, 9).load(0, 0, 0), 9 * flights);
        }
        RoomsOfAir x = Checks.withText("flight 0 4 5 0 way 0 1,0 1;flight 1 3 6 0 way 0 1;");
        int[] due = {0, 4, 7, 0};
        for (int i = 0; i < due.length; i++) {
            c.due("slot " + (4 + i), x.load(0, 4 + i, 0), due[i]);
        }
    }

    private static void tooMuchIsWhatIsAbove(Checks c) {
        c.due("far below", withHeavy(1, 99).load(0, 0, 1), 0);
        c.due("one below", withHeavy(1, 10).load(0, 0, 1), 0);
        c.due("as much", withHeavy(1, 9).load(0, 0, 1), 0);
        c.due("one above", withHeavy(1, 8).load(0, 0, 1), 1);
        c.due("all of it", withHeavy(12, 0).load(0, 0, 1), 108);
        c.due("nothing there", withHeavy(1, 0).load(0, 1, 1), 0);
        c.due("above the greatest", withHeavy(12, 99).load(0, 0, 1), 9);
    }

    private static void loadIsBad(Checks c) {
        c.takesOnly("room", 0, 7, BAD, room -> withHeavy(1, 9).load(room, 0, 0));
        c.takesOnly("slot", 0, 47, BAD, slot -> withHeavy(1, 9).load(0, slot, 1));
        c.takesOnly("what", 0, 1, BAD, what -> withHeavy(1, 9).load(0, 0, what));
    }

    private static void ofAllFromNoneToMost(Checks c) {
        for (int what = 0; what <= 5; what++) {
            c.due("of nothing, " + what, new RoomsOfAir().all(what), 0);
        }
        RoomsOfAir x = withHeavy(12, 0);
        for (int flight = 0; flight < 12; flight++) {
            x.choose(flight, 0, 4);
        }
        int[] due = {108, 0, 48, 0, 1, 108};
        for (int what = 0; what <= 5; what++) {
            c.due("of twelve, " + what, x.all(what), due[what]);
        }
        c.due("by one in one room and slot", withHeavy(1, 8).all(4), 1);
        c.due("the greatest in the first room and slot", withHeavy(1, 8).all(5), 9);
        RoomsOfAir last = Checks.withText("flight 0 7 40 0 way 0 4,0 3,7 1;flight 1 8 40 0 way 1 4,1 3,7 1;");
        c.due("the greatest in the last room and slot", last.all(5), 15);
        c.due("it is too much there", last.all(4), 1);
        RoomsOfAir full = Checks.withText("bear 0 0;bear 7 0;flight 0 9 0 99 way 0 4,0 4,0 4,0 4,0 4;flight 1 9 40 99 way 7 4,7 4;");
        c.due("every slot with too much", full.all(4), 28);
        c.due("all of it", full.all(0), 28 * 9);
    }

    private static void allIsBad(Checks c) {
        c.takesOnly("what", 0, 5, BAD, what -> withHeavy(1, 9).all(what));
        c.takesOnly("what of nothing", 0, 5, BAD, what -> new RoomsOfAir().all(what));
    }

    private static void knownAtAMoment(Checks c) {
        RoomsOfAir x = Checks.withText("flight 0 1 0 0 way 0 1 way 1 1;flight 1 2 0 0 way 0 1 way 1 1;");
        Checks.readText(x, "x");
        Checks.readText(x, "bear 0 0;flight 2 4 0 0 way 0 1 way 1 1;");
        int[] due = {1, 3, 7, 7, 7};
        for (int moment = 0; moment < due.length; moment++) {
            c.due("at " + moment, x.known(0, 0, moment), due[moment]);
        }
        c.due("at the last moment", x.known(0, 0, MAX), 7);
        for (int flight = 0; flight < 3; flight++) {
            x.choose(flight, 1, 1);
        }
        c.due("whatever is chosen", x.known(0, 0, 2), 7);
        c.due("not as chosen", x.known(1, 1, 2), 0);
        RoomsOfAir twelve = withHeavy(12, 9);
        c.due("all but the last", twelve.known(0, 0, 10), 99);
        c.due("the last", twelve.known(0, 0, 11), 108);
        c.due("no flight yet", new RoomsOfAir().known(0, 0, 0), 0);
    }

    private static void knownIsBad(Checks c) {
        c.takesOnly("room", 0, 7, BAD, room -> withHeavy(1, 9).known(room, 0, 0));
        c.takesOnly("slot", 0, 47, BAD, slot -> withHeavy(1, 9).known(0, slot, 0));
        int[] below = {-1, -2, NONE, Integer.MIN_VALUE};
        for (int moment : below) {
            c.due("moment " + moment, withHeavy(1, 9).known(0, 0, moment), BAD);
        }
    }

    /** Staff in all slots: what is split once may stay so to the end, which no change harms. */
    private static RoomsOfAir staffed(int staff, String text) {
        RoomsOfAir x = Checks.withText(text);
        x.sheet(0, 0, 48);
        for (int i = 0; i < 48; i++) {
            x.set(0, i, staff);
        }
        x.staff(0, 0, 0, 48);
        return x;
    }

    private static void sixRoomsMayBeSplit(Checks c) {
        for (int room = 0; room < 8; room++) {
            RoomsOfAir x = staffed(9, "bear " + room + " 2;flight 0 3 0 0 way " + room + " 4;");
            c.due("room " + room, x.split(0), room <= 5 ? 1 << room : 0);
            c.due("harm of room " + room, x.split(NONE), room <= 5 ? 1 : 40);
        }
    }

    private static void asManyAsStaff(Checks c) {
        StringBuilder text = new StringBuilder();
        for (int room = 0; room < 6; room++) {
            text.append("bear ").append(room).append(" 2;flight 0 3 0 0 way ").append(room).append(" 4;");
        }
        for (int staff = 0; staff <= 9; staff++) {
            RoomsOfAir x = staffed(staff, text.toString());
            int rooms = Math.min(staff, 6);
            c.due("harm with " + staff, x.split(NONE), 10 * 4 * (6 - rooms) + rooms);
            c.due("the least set with " + staff, x.split(3), (1 << rooms) - 1);
            Checks.putSheet(x, 0, 0);
            x.staff(3, 0, 0, 1);
            c.due("a slot without staff among them", x.split(3), 0);
        }
    }

    private static void halfAsMuchAgainCut(Checks c) {
        int[][] splitSafe = {{0, 0}, {1, 1}, {2, 3}, {3, 4}, {4, 6}, {5, 7}, {8, 12}, {66, 99}, {71, 106}, {72, 108}, {99, 148}};
        for (int[] row : splitSafe) {
            RoomsOfAir x = staffed(1, "flight 0 9 0 0 way 0 1;".repeat(12));
            Checks.readText(x, "bear 0 " + row[0] + ";");
            int relieved = Math.min(108, row[1]) - row[0];
            int harm = 10 * (108 - row[0] - relieved) + (relieved > 0 ? 1 : 0);
            c.due("safe " + row[0], x.split(NONE), harm);
            c.due("split at " + row[0], x.split(0), relieved > 0 ? 1 : 0);
        }
    }

    private static void harmOfAllRooms(Checks c) {
        RoomsOfAir x = Checks.withText("bear 0 0;bear 1 0;bear 2 0;bear 3 0;bear 4 0;bear 5 0;bear 6 0;bear 7 0;flight 0 1 0 0 way 0 1,1 1,2 1,3 1,4 1;"
            + "flight 0 2 40 0 way 5 1,6 2,7 4,0 4;");
        c.due("five of 1, eight of 2", x.split(NONE), 10 * (5 + 16));
        c.due("none helps", staffed(9, "bear 0 0;flight 0 1 0 0 way 0 1;").split(NONE), 10);
        c.due("none is needed", staffed(9, "flight 0 9 0 0 way 0 1;").split(NONE), 0);
    }

    private static void everyChangeHarms(Checks c) {
        RoomsOfAir apart = staffed(1, "bear 0 2;flight 0 3 5 0 way 0 1,1 1,0 1;");
        c.due("it stays split rather than change", apart.split(NONE), 1);
        int[] due = {0, 1, 1, 1, 1};
        for (int i = 0; i < due.length; i++) {
            c.due("slot " + (4 + i), apart.split(4 + i), due[i]);
        }
        Checks.putSheet(apart, 0, 0);
        apart.staff(6, 0, 0, 1);
        c.due("without staff between it changes", apart.split(NONE), 3);
        c.due("between", apart.split(6), 0);
        apart.staff(8, 0, 0, 1);
        c.due("without staff behind it, too", apart.split(NONE), 4);
        c.due("behind it", apart.split(8), 0);
        c.due("it does not begin anew", apart.split(9), 0);
        RoomsOfAir two = staffed(1, "bear 0 2;bear 1 2;flight 0 3 5 0 way 0 1,1 1;");
        c.due("from one room to another, two changes", two.split(NONE), 1 + 2);
    }

    private static void changesAtBothEnds(Checks c) {
        RoomsOfAir first = Checks.withText("bear 0 2;flight 0 3 0 0 way 0 1;");
        Checks.putSheet(first, 0, 1);
        first.staff(0, 0, 0, 1);
        c.due("split in slot 0, and not in slot 1", first.split(NONE), 2);
        c.due("slot 0", first.split(0), 1);
        c.due("slot 1", first.split(1), 0);
        RoomsOfAir last = staffed(1, "bear 0 2;flight 0 3 40 0 way 1 4,1 3,0 4;");
        c.due("split in slot 47: nothing is behind it", last.split(NONE), 1);
        c.due("slot 46", last.split(46), 0);
        c.due("slot 47", last.split(47), 1);
    }

    private static void theBestAmongEquals(Checks c) {
        RoomsOfAir x = staffed(1, "bear 0 2;bear 1 2;bear 5 2;flight 0 3 5 0 way 5 1,7 1,1 1,7 2,0 1;");
        // Between two rooms the sets 0 and either room's harm alike: the least is the best.
        int[] due = {0, 32, 0, 2, 0, 0, 1, 1};
        for (int i = 0; i < due.length; i++) {
            c.due("slot " + (4 + i), x.split(4 + i), due[i]);
        }
        c.due("harm", x.split(NONE), 5);
        RoomsOfAir alike = staffed(1, "bear 2 2;bear 4 2;flight 0 3 0 0 way 2 1;flight 1 3 0 0 way 4 1;");
        c.due("of two rooms alike the least set", alike.split(0), 4);
        c.due("one of them is too much", alike.split(NONE), 11);
        RoomsOfAir worse = staffed(1, "bear 2 2;bear 4 4;flight 0 3 0 0 way 2 1;flight 1 6 0 0 way 4 1;");
        c.due("less harm ahead of the least set", worse.split(0), 16);
    }

    private static void splitTakesEverySlot(Checks c) {
        RoomsOfAir x = staffed(1, "bear 0 2;flight 0 3 0 0 way 0 4,0 4,0 4,0 4,0 4;flight 0 3 20 0 way 0 4,0 4,0 4,0 4,0 4;"
            + "flight 0 3 40 0 way 0 4,0 4;");
        for (int slot = 0; slot < 48; slot++) {
            c.due("slot " + slot, x.split(slot), 1);
        }
        c.due("one change in all", x.split(NONE), 1);
    }

    private static void splitOfNoneIsTheHarm(Checks c) {
        c.due("of nothing", new RoomsOfAir().split(NONE), 0);
        RoomsOfAir x = withHeavy(12, 0);
        c.due("of much", x.split(NONE), 1080);
        c.due("next to NONE, below", x.split(NONE - 1), BAD);
        c.due("next to NONE, above", x.split(NONE + 1), BAD);
    }

    private static void splitIsBad(Checks c) {
        c.takesOnly("slot", 0, 47, BAD, slot -> withHeavy(1, 8).split(slot));
        c.due("the number BAD", withHeavy(1, 8).split(BAD), BAD);
    }
}
