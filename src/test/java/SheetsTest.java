/** Promises 1 to 5, and 30 as far as sheets go. */
public final class SheetsTest {
    private static final int BAD = RoomsOfAir.BAD;
    private static final int NULL = -1000011, PLACE = -1000012, SIZE = -1000014, STORE = -1000015;
    private static final Checks CHECKS = new Checks();

    public static void main(String[] args) {
        newObject();
        sheet();
        set();
        copy();
        drop();
        status();
        CHECKS.finish();
    }

    private static void newObject() {
        RoomsOfAir x = new RoomsOfAir();
        int[] counts = {0, 0, 0, 0, 0, 0, 0, 1};
        for (int what = 0; what < counts.length; what++) {
            CHECKS.due("1: count(" + what + ")", x.count(what), counts[what]);
        }
        for (int sheet = 0; sheet < 8; sheet++) {
            CHECKS.due("1: set", x.set(sheet, 0, 0), NULL);
        }
        RoomsOfAir y = new RoomsOfAir();
        CHECKS.due("1: status", y.status(), 0);
        CHECKS.due("1: fault", y.fault(), 0);
        CHECKS.due("1: trace", y.trace(0), RoomsOfAir.NONE);
        CHECKS.due("1: look", y.look(15), 1);
    }

    private static void sheet() {
        RoomsOfAir x = new RoomsOfAir();
        CHECKS.due("2: 48 items", x.sheet(7, 2, 48), 48);
        CHECKS.due("2: no item", x.sheet(0, 0, 0), 0);
        CHECKS.due("2: count", x.count(0), 2);
        CHECKS.due("2: sheet -1", x.sheet(-1, 0, 1), BAD);
        CHECKS.due("2: sheet 8", x.sheet(8, 0, 1), BAD);
        CHECKS.due("2: lane -1", x.sheet(0, -1, 1), BAD);
        CHECKS.due("2: lane 3", x.sheet(0, 3, 1), BAD);
        CHECKS.due("2: 49 items", x.sheet(0, 0, 49), BAD);
        CHECKS.due("2: fewer than none", x.sheet(7, 0, -1), SIZE);
        CHECKS.due("2: far fewer", x.sheet(7, 0, Integer.MIN_VALUE), SIZE);
        CHECKS.due("2: BAD ahead of SIZE", x.sheet(8, 0, -1), BAD);
        CHECKS.due("2: lane ahead of SIZE", x.sheet(7, 3, -1), BAD);
        CHECKS.due("2: what was found changed nothing", x.set(7, 47, 70000), 70000);
        CHECKS.due("2: in place of what is there", x.sheet(7, 2, 48), 48);
        CHECKS.due("2: copy", x.copy(7, 47, 7, 0, 1), 1);
        x.bears(0, 0, 7, 0, 48);
        CHECKS.due("2: items are 0 again", x.safe(0, 47, 0), 0);
        x.sheet(7, 1, 2);
        CHECKS.due("2: fewer places", x.set(7, 2, 0), PLACE);
        CHECKS.due("2: another lane", x.set(7, 1, 70000), 4464);
    }

    private static void set() {
        RoomsOfAir x = new RoomsOfAir();
        int[][] due = {{0, 127, 127}, {0, 128, -128}, {0, 255, -1}, {0, 256, 0}, {0, -129, 127}, {1, 32767, 32767},
            {1, 32768, -32768}, {1, 65535, -1}, {1, 65536, 0}, {1, -32769, 32767}, {2, 65536, 65536},
            {2, Integer.MIN_VALUE, Integer.MIN_VALUE}, {2, Integer.MAX_VALUE, Integer.MAX_VALUE}};
        for (int[] row : due) {
            x.sheet(3, row[0], 2);
            CHECKS.due("3: lane " + row[0] + ", " + row[1], x.set(3, 1, row[1]), row[2]);
        }
        CHECKS.due("3: sheet 8", x.set(8, 0, 0), BAD);
        CHECKS.due("3: sheet -1", x.set(-1, 0, 0), BAD);
        CHECKS.due("3: missing", x.set(4, -1, 0), NULL);
        CHECKS.due("3: place -1", x.set(3, -1, 0), PLACE);
        CHECKS.due("3: place 2", x.set(3, 2, 0), PLACE);
        CHECKS.due("3: place far off", x.set(3, Integer.MAX_VALUE, 0), PLACE);
        x.sheet(3, 0, 0);
        CHECKS.due("3: no place at all", x.set(3, 0, 0), PLACE);
    }

    private static void copy() {
        RoomsOfAir x = new RoomsOfAir();
        Checks.putSheet(x, 0, 1, 2, 3, 4, 5);
        Checks.putSheet(x, 1, 90, 91, 92);
        CHECKS.due("4: over itself, forward", x.copy(0, 0, 0, 1, 4), 4);
        itemsAre(x, "4: forward", 0, 1, 1, 2, 3, 4);
        CHECKS.due("4: over itself, backward", x.copy(0, 1, 0, 0, 4), 4);
        itemsAre(x, "4: backward", 0, 1, 2, 3, 4, 4);
        CHECKS.due("4: to another", x.copy(0, 2, 1, 1, 2), 2);
        itemsAre(x, "4: another", 1, 90, 3, 4);
        itemsAre(x, "4: the first stays", 0, 1, 2, 3, 4, 4);
        CHECKS.due("4: none", x.copy(0, 5, 1, 3, 0), 0);
        CHECKS.due("4: none beyond the end", x.copy(0, 6, 1, 3, 0), PLACE);
        CHECKS.due("4: none beyond the other's end", x.copy(0, 5, 1, 4, 0), PLACE);
        int[][] places = {{-1, 0, 1}, {0, -1, 1}, {0, 0, -1}, {0, 0, 4}, {4, 0, 2}, {0, 2, 2},
            {Integer.MAX_VALUE, 0, 1}, {0, Integer.MAX_VALUE, 1}, {1, 1, Integer.MAX_VALUE}, {0, 0, Integer.MIN_VALUE}};
        for (int[] p : places) {
            CHECKS.due("4: places " + p[0] + " " + p[1] + " " + p[2], x.copy(0, p[0], 1, p[1], p[2]), PLACE);
        }
        CHECKS.due("4: sheet 8", x.copy(8, 0, 0, 0, 1), BAD);
        CHECKS.due("4: to sheet -1", x.copy(0, 0, -1, 0, 1), BAD);
        CHECKS.due("4: BAD ahead of NULL", x.copy(2, 0, 8, 0, 1), BAD);
        CHECKS.due("4: from a missing one", x.copy(2, 0, 0, 0, 1), NULL);
        CHECKS.due("4: to a missing one", x.copy(0, 0, 2, -1, 1), NULL);
        x.sheet(2, 1, 3);
        CHECKS.due("4: STORE", x.copy(0, 0, 2, 0, 1), STORE);
        CHECKS.due("4: STORE ahead of PLACE", x.copy(0, -1, 2, 0, 1), STORE);
        CHECKS.due("4: STORE of none", x.copy(2, 0, 0, 0, 0), STORE);
    }

    /** Items 0 to 99 are seen through what a room bears. */
    private static void itemsAre(RoomsOfAir x, String what, int sheet, int... items) {
        x.bears(7, 0, sheet, 0, items.length);
        for (int i = 0; i < items.length; i++) {
            CHECKS.due(what + ", item " + i, x.safe(7, i, 0), items[i]);
        }
    }

    private static void drop() {
        RoomsOfAir x = new RoomsOfAir();
        x.sheet(5, 1, 7);
        CHECKS.due("5: had seven", x.drop(5), 7);
        CHECKS.due("5: missing now", x.drop(5), NULL);
        CHECKS.due("5: no items", x.set(5, 0, 0), NULL);
        CHECKS.due("5: count", x.count(0), 0);
        x.sheet(5, 1, 0);
        CHECKS.due("5: had none", x.drop(5), 0);
        CHECKS.due("5: sheet 8", x.drop(8), BAD);
        CHECKS.due("5: sheet -1", x.drop(-1), BAD);
    }

    private static void status() {
        RoomsOfAir x = new RoomsOfAir();
        x.set(0, 0, 0);
        CHECKS.due("30: NULL", x.status(), 1);
        x.sheet(0, 0, 49);
        CHECKS.due("30: BAD leaves it", x.status(), 1);
        x.sheet(0, 0, -1);
        CHECKS.due("30: SIZE", x.status(), 4);
        x.sheet(0, 0, 2);
        CHECKS.due("30: none", x.status(), 0);
        x.set(0, 2, 0);
        CHECKS.due("30: PLACE", x.status(), 2);
        x.set(0, 0, 100);
        CHECKS.due("30: set has none", x.status(), 0);
        x.bears(0, 0, 0, 1, 2);
        CHECKS.due("30: PLACE of bears", x.status(), 2);
        x.bears(0, 0, 0, 0, 1);
        CHECKS.due("30: an item that is BAD leaves it", x.status(), 2);
        x.look(1);
        x.count(0);
        CHECKS.due("30: calls without a sheet leave it", x.status(), 2);
        x.bears(0, 0, 0, 1, 1);
        CHECKS.due("30: bears has none", x.status(), 0);
        x.staff(0, 1, 0, 1);
        CHECKS.due("30: NULL of staff", x.status(), 1);
        x.staff(0, 0, 1, 1);
        CHECKS.due("30: staff has none", x.status(), 0);
        x.sheet(1, 1, 2);
        x.copy(0, 0, 1, 0, 1);
        CHECKS.due("30: STORE", x.status(), 5);
        x.copy(0, 0, 0, 1, 1);
        CHECKS.due("30: copy has none", x.status(), 0);
        x.drop(2);
        CHECKS.due("30: NULL of drop", x.status(), 1);
        x.drop(0);
        CHECKS.due("30: drop has none", x.status(), 0);
    }
}
