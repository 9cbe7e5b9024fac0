/** Edges of rooms, staff and worlds: promises 6 to 9, and what the terms tell of them. */
final class RoomEdges {
    private static final int NONE = RoomsOfAir.NONE, BAD = RoomsOfAir.BAD, NULL = -1000011, PLACE = -1000012;
    private static final int[] NO_SHEETS = {-1, -2, 8, 9, 256, Integer.MIN_VALUE, Integer.MAX_VALUE};

    private RoomEdges() {
    }

    static void addTo(Edges edges) {
        edges.of(Edges.TERMS, "ROOMS 0 .. 7;", RoomEdges::thereAreEightRooms);
        edges.of(Edges.TERMS, "SLOTS 0 .. 47.", RoomEdges::thereAre48Slots);
        edges.of(Edges.TERMS, "A ROOM BEARS so much in each SLOT (0 to 99;", RoomEdges::aRoomBears0To99);
        edges.of(Edges.TERMS, "9 at first)", RoomEdges::aRoomBears9AtFirst);
        edges.of(Edges.TERMS, "WORLDS 0 .. 3:", RoomEdges::thereAreFourWorlds);
        edges.of(Edges.TERMS, "in WORLD 0 all is so;", RoomEdges::noStormIsInWorld0);
        edges.of(Edges.TERMS, "from a SLOT to another one (not among them)", RoomEdges::aStormEndsAheadOfItsEnd);
        edges.of(Edges.TERMS, "there it BEARS as much as is told for the STORM at most (0 to 99)", RoomEdges::aStormNeverHelps);
        edges.of(Edges.TERMS, "(0 to 99), of several the least.", RoomEdges::ofStormsTheLeast);
        edges.of(Edges.TERMS, "in all WORLDS that are LOOKED AT", RoomEdges::safeIsTheLeastOfWorlds);
        edges.of(Edges.TERMS, "at first 1: WORLD 0 alone", RoomEdges::world0AloneAtFirst);
        edges.of(6, "in n SLOTS (1 to 48)", RoomEdges::bearsTakes1To48Slots);
        edges.of(6, "BAD: ROOM, SLOT, n (or beyond SLOT 47), SHEET;", RoomEdges::bearsIsBad);
        edges.of(6, "NULL;", RoomEdges::bearsFindsNull);
        edges.of(6, "PLACE;", RoomEdges::bearsFindsPlace);
        edges.of(6, "then BAD: an ITEM is not 0 to 99.", RoomEdges::bearsMindsItems);
        edges.of(Edges.TERMS, "STAFF in each SLOT: 0 to 9", RoomEdges::staffIs0To9);
        edges.of(Edges.TERMS, "(0 at first). ROOMS", RoomEdges::noStaffAtFirst);
        edges.of(7, "STAFF in n SLOTS likewise.", RoomEdges::staffTakes1To48Slots);
        edges.of(7, "BAD: SLOT, n, SHEET;", RoomEdges::staffIsBad);
        edges.of(7, "NULL;", RoomEdges::staffFindsNull);
        edges.of(7, "PLACE;", RoomEdges::staffFindsPlace);
        edges.of(7, "then BAD: an ITEM is not 0 to 9.", RoomEdges::staffMindsItems);
        edges.of(8, "(1 to 15): which were. BAD.", RoomEdges::lookTakes1To15);
        edges.of(9, "SAFE (world = NONE).", RoomEdges::safeOfNoWorld);
        edges.of(9, "BAD.", RoomEdges::safeIsBad);
    }

    /** Sheet 0, of ints, with all 48 items alike. */
    private static RoomsOfAir with48(int item) {
        RoomsOfAir x = new RoomsOfAir();
        x.sheet(0, 2, 48);
        for (int i = 0; i < 48; i++) {
            x.set(0, i, item);
        }
        return x;
    }

    private static RoomsOfAir withItems(int... items) {
        RoomsOfAir x = new RoomsOfAir();
        Checks.putSheet(x, 0, items);
        return x;
    }

    private static void thereAreEightRooms(Checks c) {
        c.takesOnly("bears", 0, 7, BAD, room -> with48(0).bears(room, 0, 0, 0, 1));
        c.takesOnly("safe", 0, 7, BAD, room -> new RoomsOfAir().safe(room, 0, 0));
        c.takesOnly("load", 0, 7, BAD, room -> new RoomsOfAir().load(room, 0, 0));
        c.takesOnly("known", 0, 7, BAD, room -> new RoomsOfAir().known(room, 0, 0));
        RoomsOfAir x = withItems(10, 11, 12, 13, 14, 15, 16, 17);
        for (int room = 0; room < 8; room++) {
            x.bears(room, 40, 0, room, 1);
        }
        for (int room = 0; room < 8; room++) {
            c.due("each its own, " + room, x.safe(room, 40, 0), 10 + room);
        }
    }

    private static void thereAre48Slots(Checks c) {
        c.takesOnly("bears", 0, 47, BAD, slot -> with48(0).bears(0, slot, 0, 0, 1));
        c.takesOnly("staff", 0, 47, BAD, slot -> with48(0).staff(slot, 0, 0, 1));
        c.takesOnly("safe", 0, 47, BAD, slot -> new RoomsOfAir().safe(0, slot, 0));
        c.takesOnly("load", 0, 47, BAD, slot -> new RoomsOfAir().load(0, slot, 0));
        c.takesOnly("known", 0, 47, BAD, slot -> new RoomsOfAir().known(0, slot, 0));
        c.takesOnly("at", 0, 47, BAD, slot -> Checks.withText("flight 0 1 0 0 way 0 1;").at(0, slot));
        RoomsOfAir x = with48(1);
        x.bears(3, 0, 0, 0, 48);
        c.due("the last of the room ahead", x.safe(2, 47, 0), 9);
        c.due("the first", x.safe(3, 0, 0), 1);
        c.due("the last", x.safe(3, 47, 0), 1);
        c.due("the first of the room behind", x.safe(4, 0, 0), 9);
    }

    private static void aRoomBears0To99(Checks c) {
        for (int much = 0; much <= 99; much++) {
            RoomsOfAir x = withItems(much);
            c.due("taken, " + much, x.bears(5, 5, 0, 0, 1), 1);
            c.due("borne, " + much, x.safe(5, 5, 0), much);
        }
        RoomsOfAir x = Checks.withText("bear 0 0;bear 1 99;flight 0 1 0 0 way 0 1,1 1;");
        c.due("one above 0", x.load(0, 0, 1), 1);
        c.due("nothing above 99", x.load(1, 1, 1), 0);
    }

    private static void aRoomBears9AtFirst(Checks c) {
        for (int room = 0; room < 8; room++) {
            RoomsOfAir x = new RoomsOfAir();
            for (int slot = 0; slot < 48; slot++) {
                for (int world = 0; world < 4; world++) {
                    c.due("room " + room + ", slot " + slot + ", world " + world, x.safe(room, slot, world), 9);
                }
            }
        }
    }

    private static void thereAreFourWorlds(Checks c) {
        c.takesOnly("world", 0, 3, BAD, world -> new RoomsOfAir().safe(0, 0, world));
        RoomsOfAir x = Checks.withText("storm 1 0 0 1 1;storm 2 0 0 1 2;storm 3 0 0 1 3;");
        int[] due = {9, 1, 2, 3};
        for (int world = 0; world < 4; world++) {
            c.due("each its own, " + world, x.safe(0, 0, world), due[world]);
        }
    }

    private static void noStormIsInWorld0(Checks c) {
        RoomsOfAir x = new RoomsOfAir();
        c.due("a storm of it", Checks.readText(x, "storm 0 0 0 1 1;"), -1000106);
        Checks.readText(x, "storm 1 0 0 48 0;storm 2 0 0 48 0;storm 3 0 0 48 0;");
        c.due("others", x.safe(0, 0, 0), 9);
    }

    private static void aStormEndsAheadOfItsEnd(Checks c) {
        RoomsOfAir x = Checks.withText("storm 1 4 10 11 3;storm 2 4 0 48 4;storm 3 4 47 48 5;");
        int[][] due = {{9, 1, 9}, {10, 1, 3}, {11, 1, 9}, {0, 2, 4}, {47, 2, 4}, {46, 3, 9}, {47, 3, 5}};
        for (int[] row : due) {
            c.due("slot " + row[0] + ", world " + row[1], x.safe(4, row[0], row[1]), row[2]);
        }
        c.due("the room ahead", x.safe(3, 47, 3), 9);
        c.due("the room behind", x.safe(5, 0, 2), 9);
    }

    private static void aStormNeverHelps(Checks c) {
        RoomsOfAir x = Checks.withText("storm 1 0 0 1 0;storm 1 1 0 1 8;storm 1 2 0 1 9;storm 1 3 0 1 10;storm 1 4 0 1 99;");
        int[] due = {0, 8, 9, 9, 9};
        for (int room = 0; room < due.length; room++) {
            c.due("room " + room, x.safe(room, 0, 1), due[room]);
        }
        Checks.readText(x, "bear 4 99;");
        c.due("as much as the storm", x.safe(4, 0, 1), 99);
    }

    private static void ofStormsTheLeast(Checks c) {
        RoomsOfAir x = Checks.withText("storm 1 0 0 3 5;storm 1 0 1 4 2;storm 1 0 2 5 7;storm 2 0 0 9 1;storm 1 1 0 9 0;");
        int[] due = {5, 2, 2, 2, 7, 9};
        for (int slot = 0; slot < due.length; slot++) {
            c.due("slot " + slot, x.safe(0, slot, 1), due[slot]);
        }
    }

    private static void safeIsTheLeastOfWorlds(Checks c) {
        RoomsOfAir x = Checks.withText("storm 1 0 0 1 5;storm 2 0 0 1 3;storm 3 0 0 1 7;");
        int[] inWorld = {9, 5, 3, 7};
        for (int worlds = 1; worlds <= 15; worlds++) {
            int least = 99;
            for (int world = 0; world < 4; world++) {
                least = (worlds >> world & 1) == 1 ? Math.min(least, inWorld[world]) : least;
            }
            x.look(worlds);
            c.due("worlds " + worlds, x.safe(0, 0, NONE), least);
        }
    }

    private static void world0AloneAtFirst(Checks c) {
        RoomsOfAir x = Checks.withText("storm 1 0 0 1 0;storm 2 0 0 1 0;storm 3 0 0 1 0;flight 0 1 0 0 way 0 1;");
        c.due("no storm counts", x.safe(0, 0, NONE), 9);
        c.due("nor is it too much", x.load(0, 0, 1), 0);
        c.due("one is looked at", x.count(7), 1);
        c.due("it is world 0", x.look(2), 1);
        c.due("now it is too much", x.load(0, 0, 1), 1);
    }

    private static void bearsTakes1To48Slots(Checks c) {
        c.takesOnly("n", 1, 48, BAD, n -> with48(1).bears(0, 0, 0, 0, n));
        RoomsOfAir one = with48(1);
        c.due("one", one.bears(6, 20, 0, 0, 1), 1);
        c.due("ahead of it", one.safe(6, 19, 0), 9);
        c.due("it", one.safe(6, 20, 0), 1);
        c.due("behind it", one.safe(6, 21, 0), 9);
        RoomsOfAir all = with48(1);
        c.due("all", all.bears(6, 0, 0, 0, 48), 48);
        for (int slot = 0; slot < 48; slot++) {
            c.due("all, " + slot, all.safe(6, slot, 0), 1);
        }
    }

    private static void bearsIsBad(Checks c) {
        c.takesOnly("room", 0, 7, BAD, room -> with48(1).bears(room, 0, 0, 0, 48));
        c.takesOnly("slot", 0, 47, BAD, slot -> with48(1).bears(7, slot, 0, 0, 1));
        c.takesOnly("slot of two", 0, 46, BAD, slot -> with48(1).bears(7, slot, 0, 0, 2));
        c.takesOnly("n at slot 40", 1, 8, BAD, n -> with48(1).bears(7, 40, 0, 0, n));
        c.takesOnly("n at slot 47", 1, 1, BAD, n -> with48(1).bears(7, 47, 0, 0, n));
        for (int sheet : NO_SHEETS) {
            c.due("sheet " + sheet, with48(1).bears(0, 0, sheet, 0, 1), BAD);
        }
        c.due("n ahead of NULL", new RoomsOfAir().bears(0, 0, 0, 0, 0), BAD);
        c.due("beyond ahead of NULL", new RoomsOfAir().bears(0, 47, 0, 0, 2), BAD);
        c.due("sheet ahead of PLACE", with48(1).bears(0, 0, 8, -1, 1), BAD);
    }

    private static void bearsFindsNull(Checks c) {
        c.due("missing", new RoomsOfAir().bears(0, 0, 7, 0, 1), NULL);
        c.due("ahead of PLACE", new RoomsOfAir().bears(0, 0, 7, -1, 48), NULL);
    }

    private static void bearsFindsPlace(Checks c) {
        c.takesOnly("one", 0, 2, PLACE, i -> withItems(1, 2, 3).bears(0, 0, 0, i, 1));
        c.takesOnly("two", 0, 1, PLACE, i -> withItems(1, 2, 3).bears(0, 0, 0, i, 2));
        c.takesOnly("three", 0, 0, PLACE, i -> withItems(1, 2, 3).bears(0, 0, 0, i, 3));
        c.due("four", withItems(1, 2, 3).bears(0, 0, 0, 0, 4), PLACE);
        c.due("of an empty sheet", withItems().bears(0, 0, 0, 0, 1), PLACE);
        c.due("far off", with48(1).bears(0, 0, 0, Integer.MAX_VALUE, 48), PLACE);
        c.due("ahead of an item", withItems(100, 100).bears(0, 0, 0, 1, 2), PLACE);
    }

    private static void bearsMindsItems(Checks c) {
        c.takesOnly("item", 0, 99, BAD, item -> withItems(item).bears(0, 0, 0, 0, 1));
        RoomsOfAir x = withItems(100, 5, 6, -1);
        c.due("those beside it do not count", x.bears(1, 0, 0, 1, 2), 2);
        c.due("the first is wrong", x.bears(2, 0, 0, 0, 2), BAD);
        c.due("the last is wrong", x.bears(2, 0, 0, 2, 2), BAD);
        c.due("none came, first", x.safe(2, 0, 0), 9);
        c.due("none came, second", x.safe(2, 1, 0), 9);
    }

    /** A room that a split helps in slots 0 to 3: where it is split, there is staff. */
    private static RoomsOfAir withNeedOfStaff(int... items) {
        RoomsOfAir x = Checks.withText("bear 0 2;flight 0 3 0 0 way 0 4;");
        Checks.putSheet(x, 0, items);
        return x;
    }

    private static void staffIs0To9(Checks c) {
        for (int much = 0; much <= 9; much++) {
            RoomsOfAir x = withNeedOfStaff(much);
            c.due("taken, " + much, x.staff(2, 0, 0, 1), 1);
            c.due("split with " + much, x.split(2), much == 0 ? 0 : 1);
        }
    }

    private static void noStaffAtFirst(Checks c) {
        RoomsOfAir x = withNeedOfStaff();
        c.due("harm", x.split(NONE), 40);
        for (int slot = 0; slot < 48; slot++) {
            c.due("slot " + slot, x.split(slot), 0);
        }
    }

    private static void staffTakes1To48Slots(Checks c) {
        c.takesOnly("n", 1, 48, BAD, n -> with48(1).staff(0, 0, 0, n));
        RoomsOfAir x = withNeedOfStaff(1, 0, 1);
        c.due("three", x.staff(1, 0, 0, 3), 3);
        int[] due = {0, 1, 0, 1, 0};
        for (int slot = 0; slot < due.length; slot++) {
            c.due("slot " + slot, x.split(slot), due[slot]);
        }
        RoomsOfAir y = Checks.withText("bear 0 2;flight 0 3 40 0 way 1 4,1 3,0 1;");
        Checks.putSheet(y, 0, 1);
        c.due("the last slot", y.staff(47, 0, 0, 1), 1);
        c.due("split in it", y.split(47), 1);
    }

    private static void staffIsBad(Checks c) {
        c.takesOnly("slot", 0, 47, BAD, slot -> with48(1).staff(slot, 0, 0, 1));
        c.takesOnly("slot of two", 0, 46, BAD, slot -> with48(1).staff(slot, 0, 0, 2));
        c.takesOnly("n at slot 40", 1, 8, BAD, n -> with48(1).staff(40, 0, 0, n));
        c.takesOnly("n at slot 47", 1, 1, BAD, n -> with48(1).staff(47, 0, 0, n));
        for (int sheet : NO_SHEETS) {
            c.due("sheet " + sheet, with48(1).staff(0, sheet, 0, 1), BAD);
        }
        c.due("n ahead of NULL", new RoomsOfAir().staff(0, 0, 0, 0), BAD);
        c.due("beyond ahead of NULL", new RoomsOfAir().staff(47, 0, 0, 2), BAD);
        c.due("sheet ahead of PLACE", with48(1).staff(0, 8, -1, 1), BAD);
    }

    private static void staffFindsNull(Checks c) {
        c.due("missing", new RoomsOfAir().staff(0, 7, 0, 1), NULL);
        c.due("ahead of PLACE", new RoomsOfAir().staff(0, 7, -1, 48), NULL);
    }

    private static void staffFindsPlace(Checks c) {
        c.takesOnly("one", 0, 2, PLACE, i -> withItems(1, 2, 3).staff(0, 0, i, 1));
        c.takesOnly("two", 0, 1, PLACE, i -> withItems(1, 2, 3).staff(0, 0, i, 2));
        c.due("four", withItems(1, 2, 3).staff(0, 0, 0, 4), PLACE);
        c.due("of an empty sheet", withItems().staff(0, 0, 0, 1), PLACE);
        c.due("far off", with48(1).staff(0, 0, Integer.MAX_VALUE, 48), PLACE);
        c.due("ahead of an item", withItems(10, 10).staff(0, 0, 1, 2), PLACE);
    }

    private static void staffMindsItems(Checks c) {
        c.takesOnly("item", 0, 9, BAD, item -> withItems(item).staff(0, 0, 0, 1));
        RoomsOfAir x = withNeedOfStaff(10, 1, 1, -1);
        c.due("the first is wrong", x.staff(0, 0, 0, 2), BAD);
        c.due("the last is wrong", x.staff(0, 0, 2, 2), BAD);
        c.due("none came", x.split(NONE), 40);
        c.due("those beside it do not count", x.staff(0, 0, 1, 2), 2);
        c.due("they came", x.split(NONE), 22);
    }

    private static void lookTakes1To15(Checks c) {
        c.takesOnly("worlds", 1, 15, BAD, worlds -> new RoomsOfAir().look(worlds));
        RoomsOfAir x = new RoomsOfAir();
        c.due("15", x.look(15), 1);
        c.due("none is too few", x.look(0), BAD);
        c.due("a fifth world", x.look(16), BAD);
        c.due("all and a fifth", x.look(31), BAD);
        c.due("they stay", x.look(8), 15);
        c.due("the last alone", x.count(7), 1);
    }

    private static void safeOfNoWorld(Checks c) {
        RoomsOfAir x = Checks.withText("storm 3 0 0 1 4;");
        x.look(8);
        c.due("SAFE", x.safe(0, 0, NONE), 4);
        c.due("next to NONE, below", x.safe(0, 0, NONE - 1), BAD);
        c.due("next to NONE, above", x.safe(0, 0, NONE + 1), BAD);
    }

    private static void safeIsBad(Checks c) {
        c.takesOnly("room", 0, 7, BAD, room -> new RoomsOfAir().safe(room, 47, 3));
        c.takesOnly("slot", 0, 47, BAD, slot -> new RoomsOfAir().safe(7, slot, 3));
        c.takesOnly("world", 0, 3, BAD, world -> new RoomsOfAir().safe(7, 47, world));
        c.takesOnly("room of SAFE", 0, 7, BAD, room -> new RoomsOfAir().safe(room, 0, NONE));
        c.takesOnly("slot of SAFE", 0, 47, BAD, slot -> new RoomsOfAir().safe(0, slot, NONE));
    }
}
