/** Edges of sheets: promises 1 to 5, and what the terms tell of sheets and findings. */
final class SheetEdges {
    private static final int BAD = RoomsOfAir.BAD, NULL = -1000011, PLACE = -1000012, SIZE = -1000014, STORE = -1000015;
    private static final int SHEETS = 8, MIN = Integer.MIN_VALUE, MAX = Integer.MAX_VALUE;

    private interface SheetCall {
        int of(RoomsOfAir x, int sheet);
    }

    /** Every call with a sheet; copies go from and to the sheet itself where no other one is needed. */
    private static final SheetCall[] CALLS_ON_A_SHEET = {
        (x, sheet) -> x.set(sheet, 0, 1), (x, sheet) -> x.copy(sheet, 0, 3, 0, 1), (x, sheet) -> x.copy(3, 0, sheet, 0, 1),
        (x, sheet) -> x.copy(sheet, 0, sheet, 0, 1), (x, sheet) -> x.bears(0, 0, sheet, 0, 1),
        (x, sheet) -> x.staff(0, sheet, 0, 1), (x, sheet) -> x.drop(sheet)
    };

    private SheetEdges() {
    }

    static void addTo(Edges edges) {
        edges.of(Edges.TERMS, "SHEETS 0 .. 7", SheetEdges::thereAreEightSheets);
        edges.of(Edges.TERMS, "are missing (at first)", SheetEdges::allAreMissingAtFirst);
        edges.of(Edges.TERMS, "have a LANE (0 bytes, 1 shorts, 2 ints)", SheetEdges::thereAreThreeLanes);
        edges.of(Edges.TERMS, "and 0 to 48 ITEMS", SheetEdges::aSheetHasNoneTo48Items);
        edges.of(Edges.TERMS, "ITEMS, 0 at first", SheetEdges::itemsAreZeroAtFirst);
        edges.of(Edges.TERMS, "1 NULL (a SHEET that is missing)", SheetEdges::nullIsFinding1);
        edges.of(Edges.TERMS, "2 PLACE (no such place of a SHEET)", SheetEdges::placeIsFinding2);
        edges.of(Edges.TERMS, "4 SIZE (fewer than none)", SheetEdges::sizeIsFinding4);
        edges.of(Edges.TERMS, "5 STORE (SHEETS of two LANES)", SheetEdges::storeIsFinding5);
        edges.of(1, "All as at first.", SheetEdges::allIsAsAtFirst);
        edges.of(2, "in place of what is there", SheetEdges::aSheetTakesThePlaceOfAnother);
        edges.of(2, "BAD: SHEET, LANE, n above 48", SheetEdges::sheetIsBad);
        edges.of(2, "; SIZE.", SheetEdges::sheetHasSize);
        edges.of(3, "its lowest bits, as many as the LANE has", SheetEdges::setKeepsTheLowestBits);
        edges.of(3, "BAD: SHEET;", SheetEdges::setIsBad);
        edges.of(3, "NULL;", SheetEdges::setFindsNull);
        edges.of(3, "PLACE.", SheetEdges::setFindsPlace);
        edges.of(4, "as they were ahead", SheetEdges::copiesOverlap);
        edges.of(4, "BAD: SHEETS;", SheetEdges::copyIsBad);
        edges.of(4, "NULL;", SheetEdges::copyFindsNull);
        edges.of(4, "STORE;", SheetEdges::copyFindsStore);
        edges.of(4, "PLACE (i, j, n below 0", SheetEdges::copyFindsPlacesBelowZero);
        edges.of(4, "or beyond an end)", SheetEdges::copyFindsPlacesBeyondAnEnd);
        edges.of(5, "A SHEET is missing from now on: how many ITEMS it had.", SheetEdges::aDroppedSheetIsMissing);
        edges.of(5, "BAD;", SheetEdges::dropIsBad);
        edges.of(5, "NULL.", SheetEdges::dropFindsNull);
    }

    /** All eight sheets, of ints, with three items each. */
    private static RoomsOfAir withAllSheets() {
        RoomsOfAir x = new RoomsOfAir();
        for (int sheet = 0; sheet < SHEETS; sheet++) {
            x.sheet(sheet, 2, 3);
        }
        return x;
    }

    /** An item of 0 to 99 is seen through what a room bears. */
    private static int item(RoomsOfAir x, int sheet, int i) {
        int answer = x.bears(7, 0, sheet, i, 1);
        return answer < 0 ? answer : x.safe(7, 0, 0);
    }

    private static void itemsAre(Checks c, RoomsOfAir x, int sheet, int... due) {
        for (int i = 0; i < due.length; i++) {
            c.due("item " + i, item(x, sheet, i), due[i]);
        }
        c.due("no more items", item(x, sheet, due.length), PLACE);
    }

    private static void thereAreEightSheets(Checks c) {
        for (SheetCall call : CALLS_ON_A_SHEET) {
            c.takesOnly("sheet", 0, 7, BAD, sheet -> call.of(withAllSheets(), sheet));
        }
        RoomsOfAir x = withAllSheets();
        c.due("all are there", x.count(0), 8);
        for (int sheet = 0; sheet < SHEETS; sheet++) {
            x.set(sheet, 0, 10 + sheet);
        }
        for (int sheet = 0; sheet < SHEETS; sheet++) {
            itemsAre(c, x, sheet, 10 + sheet, 0, 0);
        }
    }

    private static void allAreMissingAtFirst(Checks c) {
        for (int sheet = 0; sheet < SHEETS; sheet++) {
            for (SheetCall call : CALLS_ON_A_SHEET) {
                c.due("sheet " + sheet, call.of(new RoomsOfAir(), sheet), NULL);
            }
        }
        c.due("none is there", new RoomsOfAir().count(0), 0);
    }

    private static void thereAreThreeLanes(Checks c) {
        c.takesOnly("lane", 0, 2, BAD, lane -> new RoomsOfAir().sheet(0, lane, 1));
        int[] widest = {0x78, 0x5678, 0x12345678};
        for (int lane = 0; lane <= 2; lane++) {
            RoomsOfAir x = new RoomsOfAir();
            x.sheet(0, lane, 1);
            c.due("lane " + lane, x.set(0, 0, 0x12345678), widest[lane]);
        }
    }

    private static void aSheetHasNoneTo48Items(Checks c) {
        for (int n = 0; n <= 48; n++) {
            RoomsOfAir x = new RoomsOfAir();
            c.due("made with " + n, x.sheet(0, 0, n), n);
            c.due("the last of " + n, x.set(0, n - 1, 1), n == 0 ? PLACE : 1);
            c.due("one behind " + n, x.set(0, n, 1), PLACE);
            c.due("had " + n, x.drop(0), n);
        }
        c.due("one more", new RoomsOfAir().sheet(0, 0, 49), BAD);
        c.due("one fewer", new RoomsOfAir().sheet(0, 0, -1), SIZE);
    }

    private static void itemsAreZeroAtFirst(Checks c) {
        RoomsOfAir x = new RoomsOfAir();
        for (int time = 0; time < 2; time++) {
            x.sheet(0, 2, 48);
            for (int i = 0; i < 48; i++) {
                c.due("item " + i + ", time " + time, item(x, 0, i), 0);
                x.set(0, i, 7);
            }
            x.drop(0);
        }
    }

    private static void nullIsFinding1(Checks c) {
        RoomsOfAir x = new RoomsOfAir();
        c.due("answer", x.drop(7), -1000010 - 1);
        c.due("status", x.status(), 1);
    }

    private static void placeIsFinding2(Checks c) {
        RoomsOfAir x = withAllSheets();
        c.due("answer", x.set(0, 3, 1), -1000010 - 2);
        c.due("status", x.status(), 2);
    }

    private static void sizeIsFinding4(Checks c) {
        RoomsOfAir x = withAllSheets();
        c.due("answer", x.sheet(0, 0, -1), -1000010 - 4);
        c.due("status", x.status(), 4);
        c.due("none is not fewer than none", x.sheet(0, 0, 0), 0);
        c.due("status then", x.status(), 0);
    }

    private static void storeIsFinding5(Checks c) {
        for (int a = 0; a <= 2; a++) {
            for (int b = 0; b <= 2; b++) {
                RoomsOfAir x = new RoomsOfAir();
                x.sheet(0, a, 1);
                x.sheet(1, b, 1);
                c.due("lanes " + a + " and " + b, x.copy(0, 0, 1, 0, 1), a == b ? 1 : -1000010 - 5);
                c.due("status of " + a + " and " + b, x.status(), a == b ? 0 : 5);
            }
        }
    }

    private static void allIsAsAtFirst(Checks c) {
        for (int room = 0; room < 8; room++) {
            RoomsOfAir x = new RoomsOfAir();
            for (int slot = 0; slot < 48; slot++) {
                c.due("safe", x.safe(room, slot, RoomsOfAir.NONE), 9);
                c.due("load", x.load(room, slot, 0), 0);
                c.due("known", x.known(room, slot, MAX), 0);
                c.due("split", x.split(slot), 0);
            }
        }
        RoomsOfAir x = new RoomsOfAir();
        int[] counts = {0, 0, 0, 0, 0, 0, 0, 1};
        for (int what = 0; what < counts.length; what++) {
            c.due("count " + what, x.count(what), counts[what]);
        }
        for (int what = 0; what <= 5; what++) {
            c.due("all " + what, x.all(what), 0);
        }
        c.due("status", x.status(), 0);
        c.due("fault", x.fault(), 0);
        c.due("trace", x.trace(0), RoomsOfAir.NONE);
        c.due("worlds", x.look(1), 1);
        c.due("harm", x.split(RoomsOfAir.NONE), 0);
        c.due("the tape", x.read(), 0);
        objectsShareNothing(c);
    }

    private static void objectsShareNothing(Checks c) {
        RoomsOfAir used = withAllSheets();
        Checks.readText(used, "bear 0 1;storm 1 1 0 48 0;flight 1 1 0 0 way 0 1;x");
        Checks.readText(used, "bear 0 1;storm 1 1 0 48 0;flight 1 1 0 0 way 0 1;");
        used.look(15);
        used.ask(0, 0);
        RoomsOfAir x = new RoomsOfAir();
        c.due("another's sheets", x.count(0), 0);
        c.due("another's flights", x.count(1), 0);
        c.due("another's storms", x.count(2), 0);
        c.due("another's rooms", x.safe(0, 0, 0), 9);
        c.due("another's fault", x.fault(), 0);
        c.due("another's trace", x.trace(0), RoomsOfAir.NONE);
        c.due("another's worlds", x.look(1), 1);
    }

    private static void aSheetTakesThePlaceOfAnother(Checks c) {
        RoomsOfAir x = new RoomsOfAir();
        x.sheet(0, 2, 48);
        x.set(0, 1, 50);
        c.due("a smaller one", x.sheet(0, 0, 2), 2);
        itemsAre(c, x, 0, 0, 0);
        c.due("of another lane", x.set(0, 0, 256), 0);
        x.set(0, 1, 60);
        c.due("a greater one", x.sheet(0, 1, 3), 3);
        itemsAre(c, x, 0, 0, 0, 0);
        c.due("an empty one", x.sheet(0, 1, 0), 0);
        itemsAre(c, x, 0);
        c.due("it is there all the same", x.count(0), 1);
    }

    private static void sheetIsBad(Checks c) {
        c.takesOnly("sheet", 0, 7, BAD, sheet -> new RoomsOfAir().sheet(sheet, 2, 48));
        c.takesOnly("lane", 0, 2, BAD, lane -> new RoomsOfAir().sheet(7, lane, 0));
        int[] above = {49, 50, 256, 65536, MAX};
        for (int n : above) {
            c.due("n " + n, new RoomsOfAir().sheet(0, 0, n), BAD);
        }
        c.due("a wrong sheet ahead of SIZE", new RoomsOfAir().sheet(8, 0, -1), BAD);
        c.due("a wrong lane ahead of SIZE", new RoomsOfAir().sheet(0, 3, -1), BAD);
    }

    private static void sheetHasSize(Checks c) {
        int[] below = {-1, -2, -48, -256, MIN + 1, MIN};
        for (int n : below) {
            c.due("n " + n, new RoomsOfAir().sheet(7, 2, n), SIZE);
        }
    }

    private static void setKeepsTheLowestBits(Checks c) {
        int[][] due = {{0, 127, 127}, {0, 128, -128}, {0, 255, -1}, {0, 256, 0}, {0, -128, -128}, {0, -129, 127}, {0, MIN, 0}, {0, MAX, -1},
            {1, 32767, 32767}, {1, 32768, -32768}, {1, 65535, -1}, {1, 65536, 0}, {1, -32769, 32767}, {1, MIN, 0}, {1, MAX, -1},
            {2, 65536, 65536}, {2, MIN, MIN}, {2, MAX, MAX}, {2, -1, -1}};
        for (int[] row : due) {
            RoomsOfAir x = new RoomsOfAir();
            x.sheet(0, row[0], 1);
            c.due("lane " + row[0] + ", " + row[1], x.set(0, 0, row[1]), row[2]);
        }
        RoomsOfAir x = new RoomsOfAir();
        x.sheet(0, 0, 1);
        x.set(0, 0, 256 + 42);
        c.due("what is kept, too", item(x, 0, 0), 42);
    }

    private static void setIsBad(Checks c) {
        c.takesOnly("sheet", 0, 7, BAD, sheet -> withAllSheets().set(sheet, 0, 0));
        c.due("ahead of NULL and PLACE", new RoomsOfAir().set(8, -1, 0), BAD);
    }

    private static void setFindsNull(Checks c) {
        c.due("missing", new RoomsOfAir().set(0, 0, 0), NULL);
        c.due("ahead of PLACE", new RoomsOfAir().set(0, -1, 0), NULL);
    }

    private static void setFindsPlace(Checks c) {
        c.takesOnly("place", 0, 2, PLACE, i -> withAllSheets().set(0, i, 5));
        RoomsOfAir x = new RoomsOfAir();
        x.sheet(0, 0, 0);
        c.due("of an empty sheet", x.set(0, 0, 0), PLACE);
        x.sheet(0, 0, 48);
        c.due("the last of a full one", x.set(0, 47, 1), 1);
        c.due("behind a full one", x.set(0, 48, 1), PLACE);
    }

    private static RoomsOfAir withOneToFive() {
        RoomsOfAir x = new RoomsOfAir();
        Checks.putSheet(x, 0, 1, 2, 3, 4, 5);
        return x;
    }

    private static void copiesOverlap(Checks c) {
        RoomsOfAir onward = withOneToFive();
        c.due("onward", onward.copy(0, 0, 0, 1, 4), 4);
        itemsAre(c, onward, 0, 1, 1, 2, 3, 4);
        RoomsOfAir back = withOneToFive();
        c.due("back", back.copy(0, 1, 0, 0, 4), 4);
        itemsAre(c, back, 0, 2, 3, 4, 5, 5);
        RoomsOfAir same = withOneToFive();
        c.due("to its own place", same.copy(0, 0, 0, 0, 5), 5);
        itemsAre(c, same, 0, 1, 2, 3, 4, 5);
    }

    private static void copyIsBad(Checks c) {
        c.takesOnly("from", 0, 7, BAD, a -> withAllSheets().copy(a, 0, 1, 0, 1));
        c.takesOnly("to", 0, 7, BAD, b -> withAllSheets().copy(1, 0, b, 0, 1));
        c.due("from ahead of a missing one", new RoomsOfAir().copy(8, -1, 0, 0, 1), BAD);
        c.due("to ahead of a missing one", new RoomsOfAir().copy(0, 0, 8, -1, 1), BAD);
    }

    private static void copyFindsNull(Checks c) {
        RoomsOfAir x = withOneToFive();
        c.due("from", x.copy(1, 0, 0, 0, 1), NULL);
        c.due("to", x.copy(0, 0, 1, 0, 1), NULL);
        c.due("both", x.copy(1, 0, 2, 0, 1), NULL);
        c.due("also if none is copied", x.copy(1, 0, 0, 0, 0), NULL);
        c.due("ahead of PLACE", x.copy(0, -1, 1, -1, -1), NULL);
    }

    private static void copyFindsStore(Checks c) {
        RoomsOfAir x = withOneToFive();
        x.sheet(1, 0, 5);
        c.due("of two lanes", x.copy(0, 0, 1, 0, 1), STORE);
        c.due("the other way round", x.copy(1, 0, 0, 0, 1), STORE);
        c.due("also if none is copied", x.copy(0, 0, 1, 0, 0), STORE);
        c.due("ahead of PLACE", x.copy(0, -1, 1, 9, 9), STORE);
    }

    private static void copyFindsPlacesBelowZero(Checks c) {
        int[] below = {-1, -2, -256, MIN, MIN + 1};
        for (int v : below) {
            c.due("i " + v, withOneToFive().copy(0, v, 0, 0, 1), PLACE);
            c.due("j " + v, withOneToFive().copy(0, 0, 0, v, 1), PLACE);
            c.due("n " + v, withOneToFive().copy(0, 0, 0, 0, v), PLACE);
            c.due("i " + v + " of none", withOneToFive().copy(0, v, 0, 0, 0), PLACE);
            c.due("i and n " + v, withOneToFive().copy(0, 5, 0, 5, v), PLACE);
        }
    }

    private static void copyFindsPlacesBeyondAnEnd(Checks c) {
        RoomsOfAir x = withOneToFive();
        Checks.putSheet(x, 1, 91, 92, 93);
        c.due("to both ends", x.copy(0, 2, 1, 0, 3), 3);
        itemsAre(c, x, 1, 3, 4, 5);
        c.due("none at both ends", x.copy(0, 5, 1, 3, 0), 0);
        int[][] beyond = {{0, 0, 4}, {3, 0, 3}, {0, 1, 3}, {5, 0, 1}, {0, 3, 1}, {6, 0, 0}, {0, 4, 0}, {0, 0, 6},
            {MAX, 0, 1}, {0, MAX, 1}, {1, 1, MAX}, {MAX, MAX, MAX}, {1, 0, MAX}, {MAX, 0, 0}};
        for (int[] b : beyond) {
            c.due(b[0] + " " + b[1] + " " + b[2], x.copy(0, b[0], 1, b[1], b[2]), PLACE);
        }
        x.sheet(2, 2, 0);
        c.due("none of an empty one", x.copy(2, 0, 2, 0, 0), 0);
        c.due("one of an empty one", x.copy(2, 0, 0, 0, 1), PLACE);
    }

    private static void aDroppedSheetIsMissing(Checks c) {
        for (SheetCall call : CALLS_ON_A_SHEET) {
            RoomsOfAir x = withAllSheets();
            c.due("had three", x.drop(5), 3);
            c.due("missing", call.of(x, 5), NULL);
            c.due("others stay", x.count(0), 7);
        }
        RoomsOfAir x = new RoomsOfAir();
        x.sheet(0, 0, 0);
        c.due("had none", x.drop(0), 0);
        x.sheet(0, 2, 48);
        c.due("had all", x.drop(0), 48);
        c.due("it can be made again", x.sheet(0, 1, 2), 2);
    }

    private static void dropIsBad(Checks c) {
        c.takesOnly("sheet", 0, 7, BAD, sheet -> withAllSheets().drop(sheet));
    }

    private static void dropFindsNull(Checks c) {
        RoomsOfAir x = withAllSheets();
        c.due("there", x.drop(0), 3);
        c.due("twice", x.drop(0), NULL);
        c.due("never there", new RoomsOfAir().drop(7), NULL);
    }
}
