/** Promises 17 to 24: loads, splits, settling, swaps, airlines. */
public final class LoadsTest {
    private static final int NONE = RoomsOfAir.NONE, BAD = RoomsOfAir.BAD;
    private static final Checks CHECKS = new Checks();

    public static void main(String[] args) {
        load();
        all();
        known();
        split();
        splitAmongEquals();
        settle();
        settleAmongEquals();
        settleMinds();
        settleOfMany();
        settleTriesAll();
        harmless();
        harmlessAsThingsAreNow();
        swap();
        airline();
        blame();
        CHECKS.finish();
    }

    private static void load() {
        RoomsOfAir x = Checks.withText("bear 2 5;storm 1 2 1 2 3;flight 0 4 0 0 way 2 2;flight 1 3 1 0 way 2 2,2 1;"
            + "flight 0 9 40 0 way 7 4,7 4;");
        int[] loads = {4, 7, 3, 3, 0};
        int[] tooMuch = {0, 2, 0, 0, 0};
        int[] inStorm = {0, 4, 0, 0, 0};
        for (int slot = 0; slot < loads.length; slot++) {
            CHECKS.due("17: load in " + slot, x.load(2, slot, 0), loads[slot]);
            CHECKS.due("17: too much in " + slot, x.load(2, slot, 1), tooMuch[slot]);
        }
        x.look(3);
        for (int slot = 0; slot < loads.length; slot++) {
            CHECKS.due("17: too much in the storm, " + slot, x.load(2, slot, 1), inStorm[slot]);
        }
        x.choose(2, 0, 4);
        CHECKS.due("17: the last slot", x.load(7, 47, 0), 9);
        CHECKS.due("17: beyond it is nowhere", x.load(0, 0, 0), 0);
        CHECKS.due("17: room 8", x.load(8, 0, 0), BAD);
        CHECKS.due("17: room -1", x.load(-1, 0, 0), BAD);
        CHECKS.due("17: slot 48", x.load(0, 48, 0), BAD);
        CHECKS.due("17: slot -1", x.load(0, -1, 0), BAD);
        CHECKS.due("17: what 2", x.load(0, 0, 2), BAD);
        CHECKS.due("17: what -1", x.load(0, 0, -1), BAD);
    }

    private static void all() {
        RoomsOfAir x = Checks.withText("bear 2 5;bear 7 8;flight 0 4 0 3 way 2 2;flight 1 3 1 5 way 2 2 way 6 1;"
            + "flight 0 9 40 0 way 7 2;");
        int[] due = {4, 0, 0, 0, 3, 9};
        for (int what = 0; what < due.length; what++) {
            CHECKS.due("18: " + what, x.all(what), due[what]);
        }
        x.choose(0, 0, 4);
        x.choose(1, 1, 1);
        int[] later = {2, 27, 5, 2, 2, 9};
        for (int what = 0; what < later.length; what++) {
            CHECKS.due("18: later, " + what, x.all(what), later[what]);
        }
        CHECKS.due("18: what 6", x.all(6), BAD);
        CHECKS.due("18: what -1", x.all(-1), BAD);
    }

    private static void known() {
        RoomsOfAir x = Checks.withText("flight 0 4 0 0 way 2 2 way 3 2;flight 1 3 0 0 way 2 1;");
        Checks.readText(x, "flight 1 2 0 0 way 2 1;");
        x.choose(0, 1, 4);
        int[] due = {4, 7, 9, 9};
        for (int moment = 0; moment < due.length; moment++) {
            CHECKS.due("19: at " + moment, x.known(2, 0, moment), due[moment]);
        }
        CHECKS.due("19: much later", x.known(2, 0, Integer.MAX_VALUE), 9);
        CHECKS.due("19: another slot", x.known(2, 1, 2), 4);
        CHECKS.due("19: not by the choice", x.known(3, 4, 2), 0);
        CHECKS.due("19: moment -1", x.known(2, 0, -1), BAD);
        CHECKS.due("19: room 8", x.known(8, 0, 0), BAD);
        CHECKS.due("19: room -1", x.known(-1, 0, 0), BAD);
        CHECKS.due("19: slot 48", x.known(0, 48, 0), BAD);
        CHECKS.due("19: slot -1", x.known(0, -1, 0), BAD);
    }

    private static void split() {
        RoomsOfAir x = Checks.withText("bear 0 3;bear 5 2;bear 6 3;flight 0 6 0 0 way 0 2;flight 1 4 1 0 way 5 2;"
            + "flight 2 9 3 0 way 6 1;");
        CHECKS.due("20: without staff", x.split(NONE), 160);
        Checks.putSheet(x, 0, 0, 1, 9, 9, 9, 0);
        x.staff(0, 0, 0, 6);
        // SAFE 3 becomes 4, SAFE 2 becomes 3; room 6 is never split.
        CHECKS.due("20: harm", x.split(NONE), 160 - 20 + 2);
        int[] due = {0, 32, 32, 0, 0, 0};
        for (int slot = 0; slot < due.length; slot++) {
            CHECKS.due("20: in " + slot, x.split(slot), due[slot]);
        }
        Checks.putSheet(x, 0, 1, 1, 1);
        x.staff(0, 0, 0, 3);
        CHECKS.due("20: harm with one", x.split(NONE), 160 - 10 - 20 + 4);
        CHECKS.due("20: one by one, 0", x.split(0), 1);
        CHECKS.due("20: one by one, the least set among equals", x.split(1), 1);
        CHECKS.due("20: one by one, 2", x.split(2), 32);
        CHECKS.due("20: slot 48", x.split(48), BAD);
        CHECKS.due("20: slot -1", x.split(-1), BAD);
        CHECKS.due("20: slot BAD", x.split(BAD), BAD);
        CHECKS.due("20: the last slot", x.split(47), 0);
    }

    private static void splitAmongEquals() {
        RoomsOfAir x = Checks.withText("bear 1 2;flight 0 3 2 0 way 1 1,0 1,1 1;");
        Checks.putSheet(x, 0, 1, 1, 1, 1, 1, 1);
        x.staff(0, 0, 0, 6);
        // Staying split through slot 3 spares two changes; before and behind it the least sets are the best.
        int[] due = {0, 0, 2, 2, 2, 0};
        for (int slot = 0; slot < due.length; slot++) {
            CHECKS.due("20: equals in " + slot, x.split(slot), due[slot]);
        }
        CHECKS.due("20: harm of equals", x.split(NONE), 2);
        RoomsOfAir y = Checks.withText("bear 1 2;flight 0 3 40 0 way 0 4,0 3,1 1;");
        Checks.putSheet(y, 0, 9);
        y.staff(47, 0, 0, 1);
        CHECKS.due("20: no change behind the last slot", y.split(NONE), 1);
        CHECKS.due("20: the last slot's set", y.split(47), 2);
        CHECKS.due("20: storms count", stormyHarm(), 10 * (4 - 1) + 1);
    }

    private static int stormyHarm() {
        RoomsOfAir x = Checks.withText("storm 2 4 47 48 3;flight 0 7 40 0 way 0 4,0 3,4 1;");
        Checks.putSheet(x, 0, 1);
        x.staff(47, 0, 0, 1);
        CHECKS.due("20: in world 0", x.split(NONE), 0);
        x.look(5);
        return x.split(NONE);
    }

    private static void settle() {
        RoomsOfAir x = Checks.withText("bear 0 5;flight 0 3 0 4 way 0 2 way 1 2;flight 1 3 0 3 way 0 2;flight 2 9 0 0 way 7 1;");
        CHECKS.due("21: none", x.settle(0), BAD);
        CHECKS.due("21: flight 3", x.settle(8), BAD);
        CHECKS.due("21: also flight 3", x.settle(9), BAD);
        CHECKS.due("21: all bits", x.settle(-1), BAD);
        CHECKS.due("21: the highest bit", x.settle(Integer.MIN_VALUE), BAD);
        CHECKS.due("21: two", x.settle(3), 6);
        CHECKS.due("21: way of 0", x.told(0, 5), 0);
        CHECKS.due("21: delay of 0", x.told(0, 6), 0);
        CHECKS.due("21: delay of 1", x.told(1, 6), 2);
        x.choose(1, 0, 0);
        CHECKS.due("21: one, the other as it is", x.settle(1), 8);
        CHECKS.due("21: it is late", x.told(0, 6), 2);
        Checks.readText(x, "bear 0 2;bear 1 3;");
        CHECKS.due("21: a way costs ten", x.settle(1), 10);
        CHECKS.due("21: its way", x.told(0, 5), 1);
        CHECKS.due("21: its delay", x.told(0, 6), 0);
        x.choose(0, 0, 3);
        CHECKS.due("21: there are none", x.settle(3), NONE);
        CHECKS.due("21: all stays", x.told(0, 6), 3);
        CHECKS.due("21: the fullest room", x.settle(4), 0);
        Checks.readText(x, "flight 0 1 0 0 way 2 1;".repeat(3));
        CHECKS.due("21: five", x.settle(0b111100 | 1), 10);
        CHECKS.due("21: six", x.settle(0b111111), BAD);
    }

    private static void settleAmongEquals() {
        RoomsOfAir x = Checks.withText("bear 0 1;flight 0 1 0 0 way 0 1;flight 1 1 0 0 way 0 1;flight 2 1 0 0 way 0 1;");
        x.choose(0, 0, 3);
        x.choose(1, 0, 2);
        CHECKS.due("21: the least for the first", x.settle(7), 0);
        for (int i = 0; i < 3; i++) {
            CHECKS.due("21: delay of " + i, x.told(i, 6), i);
        }
        RoomsOfAir y = Checks.withText("bear 0 0;bear 1 0;flight 0 1 0 5 way 0 2 way 2 1 way 0 1,0 1;"
            + "flight 1 1 0 0 way 1 1,3 1 way 3 1;flight 1 1 0 10 way 4 1 way 5 1;");
        Checks.readText(y, "bear 4 0;");
        y.look(15);
        CHECKS.due("21: only by ways", y.settle(7), 30);
        CHECKS.due("21: way 1", y.told(0, 5), 1);
        RoomsOfAir z = Checks.withText("storm 1 0 0 1 0;flight 0 1 0 10 way 0 1 way 1 1;");
        z.look(2);
        CHECKS.due("21: the way counts ahead of the delay", z.settle(1), 10);
        CHECKS.due("21: way 0", z.told(0, 5), 0);
        CHECKS.due("21: delay 1", z.told(0, 6), 1);
    }

    private static void settleMinds() {
        RoomsOfAir x = Checks.withText("bear 0 5;bear 1 3;flight 0 9 0 0 way 0 4;flight 1 2 0 1 way 1 4;flight 2 2 0 0 way 1 1;");
        CHECKS.due("21: what is too much elsewhere is no matter", x.settle(2), 1);
        CHECKS.due("21: too much stays in room 0", x.load(0, 0, 1), 4);
        x.choose(1, 0, 0);
        CHECKS.due("21: others stay", x.told(2, 6), 0);
        Checks.putSheet(x, 0, 9, 9, 9, 9);
        x.staff(0, 0, 0, 4);
        CHECKS.due("21: splits do not help", x.settle(1), NONE);
        x.choose(2, 0, 4);
        CHECKS.due("21: to the end of slots", x.settle(2), 0);
        RoomsOfAir y = Checks.withText("bear 0 9;flight 0 9 40 1 way 0 4,1 4;flight 1 9 40 1 way 1 4,0 4;bear 1 0;");
        CHECKS.due("21: slot 47 is still there", y.settle(1), NONE);
        RoomsOfAir z = Checks.withText("bear 1 0;flight 0 9 40 1 way 0 4,1 4;");
        CHECKS.due("21: delayed beyond slot 47", z.settle(1), 4);
        RoomsOfAir v = Checks.withText("bear 1 0;flight 0 9 40 2 way 0 4,0 4,1 4;");
        CHECKS.due("21: nowhere beyond slot 47", v.settle(1), 0);
    }

    private static void settleOfMany() {
        RoomsOfAir x = Checks.withText("flight 0 9 0 1 way 0 1 way 1 1 way 2 1;".repeat(10) + "bear 0 9;bear 1 9;bear 2 9;");
        Checks.readText(x, "flight 1 9 0 1 way 0 1;flight 1 9 1 1 way 0 1;");
        for (int i = 0; i < 5; i++) {
            x.choose(i, 2, i);
        }
        // Flights 5 to 9 share rooms 0 and 1: the two of airline 1 hold room 0 in slots 0 and 1.
        CHECKS.due("21: five of ten", x.settle(0b1111100000), 30);
        int[] delays = {2, 3, 4, 0, 1};
        int[] ways = {0, 0, 0, 1, 1};
        for (int i = 0; i < 5; i++) {
            CHECKS.due("21: way of " + (5 + i), x.told(5 + i, 5), ways[i]);
            CHECKS.due("21: delay of " + (5 + i), x.told(5 + i, 6), delays[i]);
        }
    }

    private static void settleTriesAll() {
        RoomsOfAir x = Checks.withText("bear 0 1;flight 0 1 0 1 way 0 1;flight 1 1 0 5 way 0 1;flight 2 1 0 9 way 0 1;");
        CHECKS.due("21: the first ones give way", x.settle(7), 7);
        for (int i = 0; i < 3; i++) {
            CHECKS.due("21: delay of " + i, x.told(i, 6), 2 - i);
        }
        RoomsOfAir y = Checks.withText("bear 0 0;bear 1 0;storm 1 2 0 44 0;flight 0 1 40 99 way 0 1 way 1 1 way 2 1;");
        y.look(3);
        CHECKS.due("21: the last way, the greatest delay", y.settle(1), 416);
    }

    private static void harmlessAsThingsAreNow() {
        RoomsOfAir x = Checks.withText("bear 0 2;bear 1 0;storm 1 0 1 48 0;flight 0 2 0 0 way 0 1;flight 1 1 0 5 way 2 1;"
            + "flight 2 9 0 9 way 1 4 way 3 1;");
        x.choose(1, 0, 1);
        x.look(2);
        CHECKS.due("22: much is too much", x.all(0), 36);
        x.choose(2, 1, 0);
        CHECKS.due("22: more than now, less than then", x.harmless(0, 1), 0);
        CHECKS.due("23: nor is it done", x.swap(), NONE);
    }

    private static void harmless() {
        RoomsOfAir x = Checks.withText("flight 0 1 0 0 way 1 1;flight 1 1 0 5 way 2 1;flight 1 1 0 5 way 3 1;flight 2 1 0 1 way 4 1;");
        CHECKS.due("22: no cost is less", x.harmless(0, 1), 0);
        x.choose(1, 0, 2);
        CHECKS.due("22: one cost is less", x.harmless(0, 1), 1);
        CHECKS.due("22: the other way round", x.harmless(1, 0), 1);
        CHECKS.due("22: nothing is done", x.told(1, 6), 2);
        CHECKS.due("22: nothing is done to 0", x.told(0, 6), 0);
        CHECKS.due("22: another's cost is more", x.harmless(1, 3), 0);
        x.choose(0, 0, 2);
        CHECKS.due("22: one delay", x.harmless(0, 1), 0);
        x.choose(0, 0, 3);
        CHECKS.due("22: its cost is more", x.harmless(0, 1), 0);
        CHECKS.due("22: of one airline", x.harmless(1, 2), BAD);
        CHECKS.due("22: with itself", x.harmless(0, 0), BAD);
        CHECKS.due("22: flight 4", x.harmless(0, 4), BAD);
        CHECKS.due("22: flight -1", x.harmless(-1, 0), BAD);
        RoomsOfAir y = Checks.withText("bear 0 1;bear 1 1;flight 0 2 0 0 way 0 1;flight 1 1 0 5 way 1 1;flight 2 1 1 0 way 0 1;");
        y.choose(1, 0, 1);
        CHECKS.due("22: all too much is more", y.harmless(0, 1), 0);
        y.choose(2, 0, 1);
        CHECKS.due("22: all too much is as before", y.harmless(0, 1), 1);
        y.choose(2, 0, 0);
        y.choose(1, 0, 2);
        CHECKS.due("22: later it is as before", y.harmless(0, 1), 1);
    }

    private static void swap() {
        RoomsOfAir x = Checks.withText("flight 0 1 0 7 way 1 1;flight 0 1 0 0 way 1 1;flight 1 1 0 5 way 2 1 way 5 1;"
            + "flight 2 1 0 0 way 3 1;flight 2 1 0 9 way 3 1;");
        CHECKS.due("23: there is none", x.swap(), NONE);
        x.choose(2, 1, 3);
        x.choose(4, 0, 1);
        CHECKS.due("23: the first", x.swap(), 102);
        CHECKS.due("23: delay of 1", x.told(1, 6), 3);
        CHECKS.due("23: delay of 2", x.told(2, 6), 0);
        CHECKS.due("23: ways stay", x.told(2, 5), 1);
        CHECKS.due("23: others stay", x.told(4, 6), 1);
        CHECKS.due("23: there is none of unlike airlines", x.swap(), NONE);
        x.choose(1, 0, 0);
        CHECKS.due("23: the next", x.swap(), 104);
        CHECKS.due("23: delay of 4", x.told(4, 6), 0);
    }

    private static void airline() {
        RoomsOfAir x = Checks.withText("flight 0 1 0 2 way 0 1;flight 0 1 0 3 way 0 1;flight 1 1 0 5 way 0 1;"
            + "flight 2 1 0 7 way 0 1 way 1 1;flight 2 1 0 0 way 0 1;flight 2 1 0 0 way 0 1;");
        x.choose(0, 0, 3);
        x.choose(3, 1, 4);
        // D = 7 over n = 6: rests 2, 1, 3 of 14/6, 7/6, 21/6; one is left, for airline 2.
        int[][] due = {{2, 3, 2, 0, 6}, {1, 0, 1, 0, 0}, {3, 4, 4, 0, 38}, {0, 0, 0, 0, 0}};
        for (int airline = 0; airline < 4; airline++) {
            for (int what = 0; what < 5; what++) {
                CHECKS.due("24: " + airline + ", " + what, x.airline(airline, what), due[airline][what]);
            }
        }
        CHECKS.due("18: fair", x.all(3), 2);
        CHECKS.due("24: airline 4", x.airline(4, 0), BAD);
        CHECKS.due("24: airline -1", x.airline(-1, 0), BAD);
        CHECKS.due("24: what 5", x.airline(0, 5), BAD);
        CHECKS.due("24: what -1", x.airline(0, -1), BAD);
        RoomsOfAir y = Checks.withText("flight 1 1 0 2 way 0 1;flight 3 1 0 2 way 0 1;flight 0 1 0 2 way 0 1;");
        y.choose(1, 0, 2);
        int[] shares = {1, 1, 0, 0};
        for (int airline = 0; airline < 4; airline++) {
            CHECKS.due("24: equal rests, " + airline, y.airline(airline, 2), shares[airline]);
        }
        CHECKS.due("18: fair with equal rests", y.all(3), 4);
        CHECKS.due("24: without flights", new RoomsOfAir().airline(0, 2), 0);
    }

    private static void blame() {
        RoomsOfAir x = Checks.withText("bear 0 2;bear 1 0;flight 3 4 0 0 way 0 1,1 1;flight 1 3 0 0 way 0 1;"
            + "flight 1 1 0 0 way 0 1;flight 2 1 0 0 way 2 1;flight 0 1 0 0 way 0 1,1 1;");
        // Room 0: 7 of weights 1, 4, 0, 4: 0 rest 7, 3 rest 1, 0, 3 rest 1. Room 1: 5 of 1, 0, 0, 4.
        int[] due = {2, 3, 0, 7};
        for (int airline = 0; airline < 4; airline++) {
            CHECKS.due("24: blame of " + airline, x.airline(airline, 3), due[airline]);
        }
        Checks.readText(x, "bear 0 3;bear 1 9;");
        // 6 of weights 1, 4, 0, 4: 0 rest 6, 2 rest 6, 0, 2 rest 6: two are left, for the least airlines.
        int[] later = {1, 3, 0, 2};
        for (int airline = 0; airline < 4; airline++) {
            CHECKS.due("24: later blame of " + airline, x.airline(airline, 3), later[airline]);
        }
    }
}
