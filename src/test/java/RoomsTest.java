/** Promises 6 to 9: rooms, staff, worlds. */
public final class RoomsTest {
    private static final int NONE = RoomsOfAir.NONE, BAD = RoomsOfAir.BAD, NULL = -1000011, PLACE = -1000012;
    private static final Checks CHECKS = new Checks();

    public static void main(String[] args) {
        bears();
        staff();
        look();
        safe();
        CHECKS.finish();
    }

    private static void bears() {
        RoomsOfAir x = new RoomsOfAir();
        Checks.putSheet(x, 0, 0, 99, 50, 100, -1);
        CHECKS.due("6: three", x.bears(2, 45, 0, 0, 3), 3);
        int[] due = {9, 0, 99, 50};
        for (int i = 0; i < due.length; i++) {
            CHECKS.due("6: slot " + (44 + i), x.safe(2, 44 + i, 0), due[i]);
            CHECKS.due("6: another room", x.safe(1, 44 + i, 0), 9);
            CHECKS.due("6: the next room", x.safe(3, i, 0), 9);
        }
        CHECKS.due("6: 100 is too much", x.bears(2, 0, 0, 1, 3), BAD);
        CHECKS.due("6: nothing was done", x.safe(2, 0, 0), 9);
        CHECKS.due("6: -1 is too little", x.bears(2, 0, 0, 4, 1), BAD);
        int[][] bad = {{-1, 0, 0, 1}, {8, 0, 0, 1}, {0, -1, 0, 1}, {0, 48, 0, 1}, {0, 0, -1, 1}, {0, 0, 8, 1},
            {0, 0, 0, 0}, {0, 0, 0, -1}, {0, 0, 0, 49}, {0, 47, 0, 2}, {0, 47, 0, Integer.MAX_VALUE}};
        for (int[] b : bad) {
            CHECKS.due("6: " + b[0] + " " + b[1] + " " + b[2] + " " + b[3], x.bears(b[0], b[1], b[2], 0, b[3]), BAD);
        }
        CHECKS.due("6: BAD ahead of NULL", x.bears(0, 0, 1, 0, 0), BAD);
        CHECKS.due("6: missing", x.bears(0, 0, 1, -1, 1), NULL);
        CHECKS.due("6: place -1", x.bears(0, 0, 0, -1, 1), PLACE);
        CHECKS.due("6: beyond the sheet", x.bears(0, 0, 0, 1, 5), PLACE);
        CHECKS.due("6: place far off", x.bears(0, 0, 0, Integer.MAX_VALUE, 48), PLACE);
        x.sheet(3, 0, 48);
        CHECKS.due("6: all slots", x.bears(7, 0, 3, 0, 48), 48);
        CHECKS.due("6: the last cell", x.safe(7, 47, 0), 0);
    }

    private static void staff() {
        RoomsOfAir x = Checks.withText("bear 0 2;flight 0 3 0 0 way 0 4;");
        CHECKS.due("7: without staff", x.split(NONE), 40);
        Checks.putSheet(x, 0, 9, 0, 1, 10, -1);
        CHECKS.due("7: three", x.staff(1, 0, 0, 3), 3);
        int[] due = {0, 1, 0, 1, 0};
        for (int slot = 0; slot < due.length; slot++) {
            CHECKS.due("7: split in " + slot, x.split(slot), due[slot]);
        }
        CHECKS.due("7: 10 is too much", x.staff(0, 0, 2, 2), BAD);
        CHECKS.due("7: nothing was done", x.split(0), 0);
        CHECKS.due("7: -1 is too little", x.staff(0, 0, 4, 1), BAD);
        CHECKS.due("7: slot -1", x.staff(-1, 0, 0, 1), BAD);
        CHECKS.due("7: slot 48", x.staff(48, 0, 0, 1), BAD);
        CHECKS.due("7: n 0", x.staff(0, 0, 0, 0), BAD);
        CHECKS.due("7: n 49", x.staff(0, 0, 0, 49), BAD);
        CHECKS.due("7: beyond slot 47", x.staff(46, 0, 0, 3), BAD);
        CHECKS.due("7: sheet 8", x.staff(0, 8, 0, 1), BAD);
        CHECKS.due("7: sheet -1", x.staff(0, -1, 0, 1), BAD);
        CHECKS.due("7: missing", x.staff(0, 1, 0, 1), NULL);
        CHECKS.due("7: place 5", x.staff(0, 0, 5, 1), PLACE);
        CHECKS.due("7: place -1", x.staff(0, 0, -1, 1), PLACE);
        CHECKS.due("7: to the last slot", x.staff(47, 0, 0, 1), 1);
        x.sheet(0, 0, 48);
        CHECKS.due("7: all slots", x.staff(0, 0, 0, 48), 48);
        CHECKS.due("7: without staff again", x.split(NONE), 40);
    }

    private static void look() {
        RoomsOfAir x = new RoomsOfAir();
        CHECKS.due("8: at first", x.look(15), 1);
        CHECKS.due("8: which were", x.look(10), 15);
        CHECKS.due("8: 0", x.look(0), BAD);
        CHECKS.due("8: 16", x.look(16), BAD);
        CHECKS.due("8: -1", x.look(-1), BAD);
        CHECKS.due("8: count", x.count(7), 2);
        CHECKS.due("8: BAD changed nothing", x.look(1), 10);
    }

    private static void safe() {
        RoomsOfAir x = Checks.withText("bear 3 20;storm 1 3 10 12 15;storm 2 3 11 48 4;storm 1 3 11 12 30;"
            + "storm 3 3 0 1 0;storm 1 3 47 48 99;storm 1 3 11 13 16;");
        CHECKS.due("9: ahead of it", x.safe(3, 9, 1), 20);
        CHECKS.due("9: its first slot", x.safe(3, 10, 1), 15);
        CHECKS.due("9: of several the least", x.safe(3, 11, 1), 15);
        CHECKS.due("9: the end is not among them", x.safe(3, 12, 1), 16);
        CHECKS.due("9: behind it", x.safe(3, 13, 1), 20);
        CHECKS.due("9: at most, not more than the room", x.safe(3, 47, 1), 20);
        CHECKS.due("9: world 0", x.safe(3, 11, 0), 20);
        CHECKS.due("9: world 2", x.safe(3, 47, 2), 4);
        CHECKS.due("9: world 3", x.safe(3, 0, 3), 0);
        CHECKS.due("9: another room", x.safe(4, 11, 1), 9);
        int[][] due = {{1, 20}, {2, 15}, {4, 4}, {6, 4}, {8, 20}, {10, 15}, {3, 15}, {15, 4}};
        for (int[] row : due) {
            x.look(row[0]);
            CHECKS.due("9: looked at " + row[0], x.safe(3, 11, NONE), row[1]);
            CHECKS.due("9: a world as ever", x.safe(3, 11, 2), 4);
        }
        int[][] bad = {{-1, 0, 0}, {8, 0, 0}, {0, -1, 0}, {0, 48, 0}, {0, 0, -1}, {0, 0, 4}, {0, 0, BAD}, {8, 0, NONE}};
        for (int[] b : bad) {
            CHECKS.due("9: " + b[0] + " " + b[1] + " " + b[2], x.safe(b[0], b[1], b[2]), BAD);
        }
    }
}
