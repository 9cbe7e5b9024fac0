/** Promises 10 to 16: texts and flights. */
public final class TextsTest {
    private static final int NONE = RoomsOfAir.NONE, BAD = RoomsOfAir.BAD, FULL = RoomsOfAir.FULL;
    private static final String LEAST_FLIGHT = "flight 0 1 0 0 way 0 1;";
    private static final Checks CHECKS = new Checks();

    public static void main(String[] args) {
        feed();
        readsWell();
        readsFaults();
        readsNoMoreThanThereIsRoomFor();
        aFaultDoesNothing();
        told();
        leg();
        choose();
        at();
        CHECKS.finish();
    }

    private static void feed() {
        RoomsOfAir x = new RoomsOfAir();
        CHECKS.due("10: n 0", x.feed(0, 0), BAD);
        CHECKS.due("10: n 9", x.feed(0, 9), BAD);
        CHECKS.due("10: n -1", x.feed(0, -1), BAD);
        CHECKS.due("10: one", x.feed(0x7878786262L, 1), 1);
        CHECKS.due("10: three, the highest first", x.feed(0x7878656172L, 3), 4);
        CHECKS.due("10: eight", x.feed(0x2030203120202020L, 8), 12);
        CHECKS.due("10: the last", x.feed(';', 1), 13);
        CHECKS.due("10: it reads", x.read(), 0);
        CHECKS.due("10: bear 0 1", x.safe(0, 0, 0), 1);
        for (int i = 1; i <= 62; i++) {
            CHECKS.due("10: feeds " + i, x.feed(0x2020202020202020L, 8), 8 * i);
        }
        CHECKS.due("10: five are too many", x.feed(0x2020202020L, 5), FULL);
        CHECKS.due("10: none came", x.count(6), 496);
        CHECKS.due("10: BAD ahead of FULL", x.feed(0, 9), BAD);
        CHECKS.due("10: four fit", x.feed(0x20202020, 4), 500);
        CHECKS.due("10: one is too many", x.feed(32, 1), FULL);
        CHECKS.due("10: blanks read", x.read(), 0);
        CHECKS.due("10: the tape is empty", x.count(6), 0);
        CHECKS.due("10: it begins anew", x.feed(-1, 8), 8);
        CHECKS.due("10: bytes above 127 are no tokens", x.read(), -1000100);
    }

    private static void readsWell() {
        String[] texts = {"", "  \n ", "bear 0 0;", "bear 7 99;", "bear 007 099 ;", "\nbear\n1\n2\n;\n", "bear0 1;bear 1 1;",
            "storm 1 0 0 1 0;", "storm 3 7 47 48 99;", "storm1 7 46 48 9 ; bear 1 1;"};
        for (String text : texts) {
            CHECKS.due("11: '" + text + "'", Checks.readText(new RoomsOfAir(), text), 0);
        }
        String[] flights = {LEAST_FLIGHT, "flight 3 9 40 99 way 7 4 way 7 4 way 7 4;", "flight0 1 2 3way 4 1,5 2,6 3,7 4,0 1;",
            "flight 0 1 0 0\nway 0 1 , 1 1 way\n2 1;bear 0 1;"};
        for (String text : flights) {
            CHECKS.due("11: '" + text + "'", Checks.readText(new RoomsOfAir(), text), 1);
        }
        RoomsOfAir x = Checks.withText("bear 0 5;" + LEAST_FLIGHT + "bear 0 6;bear 1 7;");
        CHECKS.due("11: the later one stands", x.safe(0, 47, 0), 6);
        CHECKS.due("11: in all slots", x.safe(1, 0, 0), 7);
        CHECKS.due("11: more flights", Checks.readText(x, LEAST_FLIGHT + LEAST_FLIGHT), 3);
        CHECKS.due("12: no fault yet", x.fault(), 0);
    }

    private static void readsFaults() {
        fault("flight", 6, 1);
        fault("flight  \n", 9, 1);
        fault(" ;", 1, 1);
        fault("way 0 1;", 0, 1);
        fault("fligh 0;", 0, 1);
        fault("flightx 0;", 0, 1);
        fault("Flight 0;", 0, 1);
        fault("7;", 0, 1);
        fault("bear 0 1;#", 9, 1);
        fault("bear 0\t1;", 6, 1);
        fault("bear 0 1;\r", 9, 1);
        fault("bear 0,1;", 6, 1);
        fault("bear 0 1,", 8, 1);
        fault("bear 0 1 2;", 9, 1);
        fault("bear 0 -1;", 7, 1);
        fault("bear 0 0001;", 7, 1);
        fault("bear 8888 1;", 5, 1);
        fault("bear 8 1", 5, 2);
        fault("bear 0 100 #", 7, 2);
        fault("bear abcdefg", 5, 1);
        fault("storm 0 0 0 1 1;", 6, 2);
        fault("storm 4 0 0 1 1;", 6, 2);
        fault("storm 1 8 0 1 1;", 8, 2);
        fault("storm 1 0 48 49 1;", 10, 2);
        fault("storm 1 0 3 3 1;", 12, 2);
        fault("storm 1 0 3 2 1;", 12, 2);
        fault("storm 1 0 3 49 1;", 12, 2);
        fault("storm 1 0 3 4 100;", 14, 2);
        fault("storm 1 0 3 4;", 13, 1);
        fault("flight 4 1 0 0 way 0 1;", 7, 2);
        fault("flight 0 0 0 0 way 0 1;", 9, 2);
        fault("flight 0 10 0 0 way 0 1;", 9, 2);
        fault("flight 0 1 41 0 way 0 1;", 11, 2);
        fault("flight 0 1 0 100 way 0 1;", 13, 2);
        fault("flight 0 way 0 1;", 9, 1);
        fault("flight 0 1 0 0;", 14, 1);
        fault("flight 0 1 0 0 0 1;", 15, 1);
        fault("flight 0 1 0 0 bear 0 1;", 15, 1);
        fault("flight 0 1 0 0 wayz 0 1;", 15, 1);
        fault("flight 0 1 0 0 waya 0 1;", 15, 1);
        fault("flight 0 1 0 0 way 8 1;", 19, 2);
        fault("flight 0 1 0 0 way 0 0;", 21, 2);
        fault("flight 0 1 0 0 way 0 5;", 21, 2);
        fault("flight 0 1 0 0 way;", 18, 1);
        fault("flight 0 1 0 0 way 0;", 20, 1);
        fault("flight 0 1 0 0 way 0 1 1;", 23, 1);
        fault("flight 0 1 0 0 way 0 1,;", 23, 1);
        fault("flight 0 1 0 0 way 0 1 flight 0", 23, 1);
        fault("flight 0 1 0 0 way 0 1 way;", 26, 1);
        fault("flight 0 1 0 0 way 0 1 way 0 1 way 0 1 way #", 39, 3);
        fault("flight 0 1 0 0 way 0 1,0 1,0 1,0 1,0 1 ,#", 39, 3);
        fault("flight 0 1 0 0 way 0 1,0 1,0 1,0 1,0 1 way 0 1,0 1,0 1,0 1,0 1,", 62, 3);
    }

    private static void fault(String text, int place, int number) {
        RoomsOfAir x = new RoomsOfAir();
        CHECKS.due("11: '" + text + "'", Checks.readText(x, text), -1000100 - place);
        CHECKS.due("12: '" + text + "'", x.fault(), number);
        CHECKS.due("11: the tape is empty", x.count(6), 0);
    }

    private static void readsNoMoreThanThereIsRoomFor() {
        RoomsOfAir x = new RoomsOfAir();
        CHECKS.due("11: eleven flights", Checks.readText(x, LEAST_FLIGHT.repeat(11)), 11);
        CHECKS.due("11: two are too many", Checks.readText(x, LEAST_FLIGHT + " flight #"), -1000124);
        CHECKS.due("12: two flights", x.fault(), 4);
        CHECKS.due("11: the twelfth", Checks.readText(x, LEAST_FLIGHT), 12);
        CHECKS.due("11: the thirteenth", Checks.readText(x, "bear 0 1;" + LEAST_FLIGHT), -1000109);
        CHECKS.due("11: the wrong place is told first", Checks.readText(x, "bear flight"), -1000105);
        CHECKS.due("12: the wrong place", x.fault(), 1);
        String storm = "storm 1 0 0 1 1;";
        CHECKS.due("11: nineteen storms", Checks.readText(x, storm.repeat(19)), 12);
        CHECKS.due("11: two storms are too many", Checks.readText(x, storm.repeat(2)), -1000116);
        CHECKS.due("12: two storms", x.fault(), 4);
        CHECKS.due("11: nothing was done", x.count(2), 19);
        CHECKS.due("11: the twentieth", Checks.readText(x, storm), 12);
        CHECKS.due("11: twenty", x.count(2), 20);
        CHECKS.due("11: the twenty-first", Checks.readText(x, storm), -1000100);
    }

    private static void aFaultDoesNothing() {
        RoomsOfAir x = Checks.withText(LEAST_FLIGHT);
        Checks.readText(x, "bear 0 1;storm 1 0 0 9 0;flight 1 2 3 4 way 0 4;bear 0 100;");
        CHECKS.due("11: no bear", x.safe(0, 0, 0), 9);
        CHECKS.due("11: no storm", x.count(2), 0);
        CHECKS.due("11: no storm felt", x.safe(0, 0, 1), 9);
        CHECKS.due("11: no flight", x.count(1), 1);
        CHECKS.due("11: no load", x.load(0, 3, 0), 0);
        CHECKS.due("12: a fault", x.fault(), 2);
        CHECKS.due("11: then well", Checks.readText(x, "bear 0 1;"), 1);
        CHECKS.due("12: the latest stays", x.fault(), 2);
        Checks.readText(x, "x");
        CHECKS.due("12: a later one", x.fault(), 1);
        Checks.readText(x, "flight 1 2 3 4 way 5 1,5 1 way 5 1");
        CHECKS.due("11: a flight where one had a fault", Checks.readText(x, "flight 1 2 3 4 way 6 1;"), 2);
        CHECKS.due("13: its own ways alone", x.told(1, 4), 1);
        CHECKS.due("14: its own leg", x.leg(1, 0, 0, 0), 6);
        CHECKS.due("14: its own legs alone", x.leg(1, 0, 1, 0), NONE);
    }

    private static void told() {
        RoomsOfAir x = Checks.withText(LEAST_FLIGHT + "flight 3 9 40 99 way 1 1 way 2 2 way 3 3;");
        x.choose(1, 2, 4);
        int[] due = {3, 9, 40, 99, 3, 2, 4, 416};
        for (int what = 0; what < due.length; what++) {
            CHECKS.due("13: " + what, x.told(1, what), due[what]);
        }
        int[] first = {0, 1, 0, 0, 1, 0, 0, 0};
        for (int what = 0; what < first.length; what++) {
            CHECKS.due("13: of the first, " + what, x.told(0, what), first[what]);
        }
        CHECKS.due("13: flight 2", x.told(2, 0), BAD);
        CHECKS.due("13: flight -1", x.told(-1, 0), BAD);
        CHECKS.due("13: what 8", x.told(0, 8), BAD);
        CHECKS.due("13: what -1", x.told(0, -1), BAD);
    }

    private static void leg() {
        RoomsOfAir x = Checks.withText("flight 0 1 0 0 way 7 4,0 1 way 1 1,2 2,3 3,4 4,5 1;");
        int[][] rooms = {{7, 0}, {1, 2, 3, 4, 5}};
        int[][] slots = {{4, 1}, {1, 2, 3, 4, 1}};
        for (int way = 0; way < 2; way++) {
            for (int i = 0; i < rooms[way].length; i++) {
                CHECKS.due("14: room", x.leg(0, way, i, 0), rooms[way][i]);
                CHECKS.due("14: slots", x.leg(0, way, i, 1), slots[way][i]);
            }
            CHECKS.due("14: not so many", x.leg(0, way, rooms[way].length, 0), NONE);
        }
        CHECKS.due("14: far too many", x.leg(0, 0, Integer.MAX_VALUE, 1), NONE);
        CHECKS.due("14: leg -1", x.leg(0, 0, -1, 1), NONE);
        CHECKS.due("14: flight 1", x.leg(1, 0, 0, 0), BAD);
        CHECKS.due("14: flight -1", x.leg(-1, 0, 0, 0), BAD);
        CHECKS.due("14: way 2", x.leg(0, 2, 0, 0), BAD);
        CHECKS.due("14: way -1", x.leg(0, -1, 9, 0), BAD);
        CHECKS.due("14: what 2", x.leg(0, 0, 9, 2), BAD);
        CHECKS.due("14: what -1", x.leg(0, 0, 0, -1), BAD);
    }

    private static void choose() {
        RoomsOfAir x = Checks.withText("flight 0 1 0 7 way 0 1 way 1 1;");
        CHECKS.due("15: a choice", x.choose(0, 1, 4), 38);
        CHECKS.due("15: flight 1", x.choose(1, 0, 0), BAD);
        CHECKS.due("15: flight -1", x.choose(-1, 0, 0), BAD);
        CHECKS.due("15: way 2", x.choose(0, 2, 0), BAD);
        CHECKS.due("15: way -1", x.choose(0, -1, 0), BAD);
        CHECKS.due("15: delay 5", x.choose(0, 0, 5), BAD);
        CHECKS.due("15: delay -1", x.choose(0, 0, -1), BAD);
        CHECKS.due("15: its way stays", x.told(0, 5), 1);
        CHECKS.due("15: its delay stays", x.told(0, 6), 4);
        CHECKS.due("15: back", x.choose(0, 0, 0), 0);
        CHECKS.due("15: its way", x.told(0, 5), 0);
    }

    private static void at() {
        RoomsOfAir x = Checks.withText("flight 0 1 5 0 way 3 2,4 1,3 1 way 6 1;flight 0 1 40 0 way 1 4,2 4;");
        x.choose(0, 0, 1);
        int[] due = {NONE, 3, 3, 4, 3, NONE};
        for (int i = 0; i < due.length; i++) {
            CHECKS.due("16: slot " + (5 + i), x.at(0, 5 + i), due[i]);
        }
        x.choose(0, 1, 0);
        CHECKS.due("16: another way", x.at(0, 5), 6);
        CHECKS.due("16: it ends", x.at(0, 6), NONE);
        x.choose(1, 0, 4);
        CHECKS.due("16: the last slot", x.at(1, 47), 1);
        CHECKS.due("16: not yet", x.at(1, 43), NONE);
        CHECKS.due("16: slot 48", x.at(1, 48), BAD);
        CHECKS.due("16: slot -1", x.at(1, -1), BAD);
        CHECKS.due("16: flight 2", x.at(2, 0), BAD);
        CHECKS.due("16: flight -1", x.at(-1, 0), BAD);
    }
}
