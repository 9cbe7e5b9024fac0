import java.util.Arrays;
import java.util.List;

/** Edges of texts: promises 10 to 12, and what the terms tell of the tape, its tokens and its faults. */
final class TextEdges {
    private static final int BAD = RoomsOfAir.BAD, FULL = RoomsOfAir.FULL, FAULTS = -1000100;
    private static final String FLIGHT = "flight 1 1 1 1 way 1 1;", STORM = "storm 1 0 0 1 1;";
    private static final long BLANKS = 0x2020202020202020L;

    private TextEdges() {
    }

    static void addTo(Edges edges) {
        edges.of(Edges.TERMS, "THE TAPE has at most 500 bytes", TextEdges::theTapeHas500Bytes);
        edges.of(Edges.TERMS, "NAMES (letters a to z, 6 at most)", TextEdges::namesHaveSixLetters);
        edges.of(Edges.TERMS, "NUMBERS (figures, 3 at most)", TextEdges::numbersHaveThreeFigures);
        edges.of(Edges.TERMS, "SIGNS ; , bytes 32 and 10 between.", TextEdges::otherBytesAreNoTokens);
        edges.of(Edges.TERMS, "text: {", TextEdges::anEmptyTextIsOne);
        edges.of(Edges.TERMS, "way { way } ';'", TextEdges::aFlightHasAWay);
        edges.of(Edges.TERMS, "WORLD (1 to 3), ROOM, from SLOT,", TextEdges::numbersOfAStorm);
        edges.of(Edges.TERMS, "to SLOT (above it, 48 at most)", TextEdges::aStormEndsAboveItsBegin);
        edges.of(Edges.TERMS, "a ROOM, what it BEARS in all SLOTS;", TextEdges::numbersOfABear);
        edges.of(Edges.TERMS, "They are done, one by one, when all is read.", TextEdges::doneOneByOne);
        edges.of(Edges.TERMS, "FAULTS, the first TOKEN that has one (its first byte)", TextEdges::theFirstFaultIsTold);
        edges.of(Edges.TERMS, "of one TOKEN the least:", TextEdges::ofOneTokenTheLeastFault);
        edges.of(Edges.TERMS, "1 it cannot stand there, or is none", TextEdges::whatCannotStandThere);
        edges.of(Edges.TERMS, "(the end: how many bytes there are)", TextEdges::theEndCannotStandThere);
        edges.of(Edges.TERMS, "2 a NUMBER that is not as told", TextEdges::numbersThatAreNotAsTold);
        edges.of(Edges.TERMS, "3 the 4th 'way' of a FLIGHT", TextEdges::theFourthWay);
        edges.of(Edges.TERMS, "the 6th LEG of a WAY (its ,)", TextEdges::theSixthLeg);
        edges.of(Edges.TERMS, "4 a FLIGHT, a STORM more than there is room for (its word)", TextEdges::moreThanThereIsRoomFor);
        edges.of(Edges.TERMS, "12 FLIGHTS, 20 STORMS, with those that are there.", TextEdges::withThoseThatAreThere);
        edges.of(10, "The lowest n bytes of w (1 to 8), the highest of them first", TextEdges::feedTakesTheLowestBytes);
        edges.of(10, "BAD: n;", TextEdges::feedIsBad);
        edges.of(10, "FULL: none comes.", TextEdges::feedIsFull);
        edges.of(11, "The tape, empty then", TextEdges::theTapeIsEmptyThen);
        edges.of(11, "how many FLIGHTS there are", TextEdges::readTellsAllFlights);
        edges.of(11, "-1000100 less the place of a FAULT", TextEdges::theLeastAndTheGreatestPlace);
        edges.of(11, "FAULT: nothing is done.", TextEdges::aFaultDoesNothing);
        edges.of(12, "The number of the latest FAULT", TextEdges::theLatestFaultStays);
        edges.of(12, "FAULT; 0 before one.", TextEdges::noFaultAtFirst);
    }

    private static RoomsOfAir withBlanks(int bytes) {
        RoomsOfAir x = new RoomsOfAir();
        for (int left = bytes; left > 0; left -= 8) {
            x.feed(BLANKS, Math.min(8, left));
        }
        return x;
    }

    /** A fault in a text that a new object reads. */
    private static void fault(Checks c, String text, int place, int number) {
        RoomsOfAir x = new RoomsOfAir();
        c.due("place in '" + text + "'", Checks.readText(x, text), FAULTS - place);
        c.due("number in '" + text + "'", x.fault(), number);
    }

    private static void reads(Checks c, String text, int flights) {
        RoomsOfAir x = new RoomsOfAir();
        c.due("read of '" + text + "'", Checks.readText(x, text), flights);
        c.due("no fault in '" + text + "'", x.fault(), 0);
    }

    private static void theTapeHas500Bytes(Checks c) {
        for (int n = 1; n <= 8; n++) {
            RoomsOfAir x = withBlanks(500 - n);
            c.due(n + " that fit", x.feed(BLANKS, n), 500);
            c.due("they are there", x.count(6), 500);
            c.due("one more than fits", withBlanks(501 - n).feed(BLANKS, n), FULL);
        }
        RoomsOfAir x = withBlanks(491);
        c.due("a text to the last byte", Checks.feedText(x, "bear 0 3;"), 500);
        c.due("it is read", x.read(), 0);
        c.due("it is done", x.safe(0, 0, 0), 3);
    }

    private static void namesHaveSixLetters(Checks c) {
        reads(c, FLIGHT, 1);
        fault(c, "flights 1 1 1 1 way 1 1;", 0, 1);
        fault(c, "aflight", 0, 1);
        fault(c, " bearbear 0 1;", 1, 1);
        fault(c, "stormstormstorm", 0, 1);
        fault(c, "flighs 1", 0, 1);
        fault(c, "fligh 1", 0, 1);
        fault(c, "bea 0 1;", 0, 1);
        fault(c, "stor 1", 0, 1);
        fault(c, "flight 1 1 1 1 wa 1 1;", 15, 1);
        fault(c, "flight 1 1 1 1 ways 1 1;", 15, 1);
        fault(c, "flight 1 1 1 1 waya 1 1;", 15, 1);
        fault(c, "flight 1 1 1 1 wayz 1 1;", 15, 1);
        fault(c, "abear 0 1;", 0, 1);
        fault(c, "bearz 0 1;", 0, 1);
        fault(c, "BEAR 0 1;", 0, 1);
        fault(c, "`ear 0 1;", 0, 1);
        fault(c, "bear 0 1;{", 9, 1);
    }

    private static void numbersHaveThreeFigures(Checks c) {
        reads(c, "bear 7 9;bear 07 99;bear 007 099;bear 000 000;", 0);
        fault(c, "bear 0007 1;", 5, 1);
        fault(c, "bear 7 0099;", 7, 1);
        fault(c, "bear 0000 1;", 5, 1);
        fault(c, "bear 7 00000000000000000000000000001;", 7, 1);
        fault(c, "bear 7 4294967297;", 7, 1);
        fault(c, "bear 7 18446744073709551617;", 7, 1);
        fault(c, "bear 7 999;", 7, 2);
        fault(c, "bear 7 1000;", 7, 1);
        fault(c, "bear /", 5, 1);
        fault(c, "bear :", 5, 1);
        fault(c, "bear 7 -1;", 7, 1);
        fault(c, "bear 7 +1;", 7, 1);
    }

    private static void otherBytesAreNoTokens(Checks c) {
        for (int b = 0; b < 256; b++) {
            String sign = String.valueOf((char) b);
            boolean isGap = b == 32 || b == 10;
            int behind = Checks.readText(new RoomsOfAir(), "bear 0 3;" + sign);
            c.due("byte " + b + " behind a text", behind, isGap ? 0 : FAULTS - 9);
            boolean isFigure = b >= '0' && b <= '9';
            int within = Checks.readText(new RoomsOfAir(), "bear 7" + sign + "1;");
            c.due("byte " + b + " between numbers", within, isGap ? 0 : isFigure ? FAULTS - 5 : FAULTS - 6);
        }
        reads(c, " \n bear\n \n1  2\n;\n\n", 0);
        reads(c, "flight 1 1 1 1 way 1 1,1 1 , 1 1\n,\n1 1;", 1);
    }

    private static void anEmptyTextIsOne(Checks c) {
        reads(c, "", 0);
        reads(c, " ", 0);
        reads(c, "\n", 0);
        c.due("500 blanks", withBlanks(500).read(), 0);
        RoomsOfAir x = Checks.withText(FLIGHT + FLIGHT);
        c.due("after flights", x.read(), 2);
        fault(c, ";", 0, 1);
    }

    private static void aFlightHasAWay(Checks c) {
        fault(c, "flight 1 1 1 1;", 14, 1);
        fault(c, "flight 1 1 1 1 way;", 18, 1);
        reads(c, "flight 1 1 1 1 way 1 1;", 1);
        reads(c, "flight 1 1 1 1 way 1 1 way 1 1;", 1);
        reads(c, "flight 1 1 1 1 way 1 1 way 1 1 way 1 1;", 1);
    }

    /** Every number of three figures at the place of the @. */
    private static void numberIsFrom(Checks c, String text, int least, int most) {
        int place = text.indexOf('@');
        for (int v = 0; v <= 999; v++) {
            RoomsOfAir x = new RoomsOfAir();
            int answer = Checks.readText(x, text.replace("@", String.valueOf(v)));
            boolean isAsTold = v >= least && v <= most;
            c.holds(v + " in '" + text + "'", isAsTold ? answer >= 0 && x.fault() == 0 : answer == FAULTS - place && x.fault() == 2);
        }
    }

    private static void numbersOfAStorm(Checks c) {
        numberIsFrom(c, "storm @ 1 0 1 1;", 1, 3);
        numberIsFrom(c, "storm 1 @ 0 1 1;", 0, 7);
        numberIsFrom(c, "storm 1 1 @ 48 1;", 0, 47);
        numberIsFrom(c, "storm 1 1 0 1 @;", 0, 99);
        RoomsOfAir x = Checks.withText("storm 3 7 47 48 0;");
        c.due("the last storm that can be", x.safe(7, 47, 3), 0);
    }

    private static void aStormEndsAboveItsBegin(Checks c) {
        numberIsFrom(c, "storm 1 1 0 @ 1;", 1, 48);
        numberIsFrom(c, "storm 1 1 20 @ 1;", 21, 48);
        numberIsFrom(c, "storm 1 1 47 @ 1;", 48, 48);
        fault(c, "storm 1 1 48 49 1;", 10, 2);
    }

    private static void numbersOfABear(Checks c) {
        numberIsFrom(c, "bear @ 1;", 0, 7);
        numberIsFrom(c, "bear 1 @;", 0, 99);
        RoomsOfAir x = Checks.withText("bear 0 0;bear 7 99;");
        for (int slot = 0; slot < 48; slot++) {
            c.due("room 0, slot " + slot, x.safe(0, slot, 0), 0);
            c.due("room 1, slot " + slot, x.safe(1, slot, 0), 9);
            c.due("room 7, slot " + slot, x.safe(7, slot, 0), 99);
        }
    }

    private static void doneOneByOne(Checks c) {
        RoomsOfAir x = Checks.withText("bear 0 1;bear 0 2;bear 0 3;flight 3 1 1 1 way 1 1;flight 2 1 1 1 way 1 1;");
        c.due("the last of a room stands", x.safe(0, 0, 0), 3);
        c.due("the first flight", x.told(0, 0), 3);
        c.due("the second flight", x.told(1, 0), 2);
        Checks.putSheet(x, 0, 50);
        x.bears(0, 5, 0, 0, 1);
        Checks.readText(x, "bear 0 4;");
        c.due("a text behind a sheet", x.safe(0, 5, 0), 4);
    }

    private static void theFirstFaultIsTold(Checks c) {
        fault(c, "bear 8 100 #", 5, 2);
        fault(c, "bear 0 100 #", 7, 2);
        fault(c, "bear 0 99 #", 10, 1);
        fault(c, "# bear 8", 0, 1);
        fault(c, "bear 0 1; bear 0 2; bear  99 9;", 26, 2);
        fault(c, "bear 0 1;   abcdefghij", 12, 1);
        fault(c, "flight 4 0 41 100 way 8 5;", 7, 2);
        fault(c, "flight 3 0 41 100 way 8 5;", 9, 2);
        fault(c, "flight 3 1 41 100 way 8 5;", 11, 2);
        fault(c, "flight 3 1 40 100 way 8 5;", 14, 2);
        fault(c, "flight 3 1 40 99 way 8 5;", 21, 2);
        fault(c, "flight 3 1 40 99 way 7 5;", 23, 2);
        fault(c, "flight 3 1 40 99 way 7 4 #", 25, 1);
    }

    private static void ofOneTokenTheLeastFault(Checks c) {
        fault(c, "bear 1 1 999;", 9, 1);
        fault(c, "flight 1 1 1 1 999", 15, 1);
        fault(c, "flight 1 1 1 1 way 1 1 way 1 1 way 1 1,way", 39, 1);
        fault(c, "flight 1 1 1 1 way 1 1 way 1 1 way 1 1 way", 39, 3);
        fault(c, "flight 1 1 1 1 way 1 1,1 1,1 1,1 1,1,", 36, 1);
        RoomsOfAir x = withFlightsAndStorms();
        fullFault(c, x, "bear flight", 5, 1);
        fullFault(c, x, "bear 1 storm", 7, 1);
        fullFault(c, x, "flight", 0, 4);
        fullFault(c, x, "storm 999", 0, 4);
        fullFault(c, x, "flights", 0, 1);
    }

    /** There is no room for a flight more, nor for a storm. */
    private static RoomsOfAir withFlightsAndStorms() {
        RoomsOfAir x = Checks.withText(FLIGHT.repeat(12));
        Checks.readText(x, STORM.repeat(20));
        return x;
    }

    private static void fullFault(Checks c, RoomsOfAir x, String text, int place, int number) {
        c.due("place in '" + text + "'", Checks.readText(x, text), FAULTS - place);
        c.due("number in '" + text + "'", x.fault(), number);
    }

    /** Beginnings of texts, each with the tokens that can stand behind it (the empty one is the end). */
    private static final String[][] BEGINNINGS = {
        {"", "flight", "bear", "storm", ""},
        {"bear ", "1"}, {"bear 1 ", "1"}, {"bear 1 1 ", ";"}, {"bear 1 1 ; ", "flight", "bear", "storm", ""},
        {"storm ", "1"}, {"storm 1 ", "1"}, {"storm 1 1 ", "1"}, {"storm 1 1 0 ", "1"}, {"storm 1 1 0 1 ", "1"},
        {"storm 1 1 0 1 1 ", ";"}, {"storm 1 1 0 1 1 ; ", "flight", "bear", "storm", ""},
        {"flight ", "1"}, {"flight 1 ", "1"}, {"flight 1 1 ", "1"}, {"flight 1 1 1 ", "1"}, {"flight 1 1 1 1 ", "way"},
        {"flight 1 1 1 1 way ", "1"}, {"flight 1 1 1 1 way 1 ", "1"}, {"flight 1 1 1 1 way 1 1 ", "way", ",", ";"},
        {"flight 1 1 1 1 way 1 1 , ", "1"}, {"flight 1 1 1 1 way 1 1 , 1 ", "1"},
        {"flight 1 1 1 1 way 1 1 , 1 1 ", "way", ",", ";"}, {"flight 1 1 1 1 way 1 1 way ", "1"},
        {"flight 1 1 1 1 way 1 1 way 1 ", "1"}, {"flight 1 1 1 1 way 1 1 way 1 1 ", "way", ",", ";"},
        {"flight 1 1 1 1 way 1 1 ; ", "flight", "bear", "storm", ""}
    };

    private static void whatCannotStandThere(Checks c) {
        String[] tokens = {"flight", "bear", "storm", "way", "1", ",", ";", "x", "abcdefg", "1111", "#", "A", ".", ""};
        for (String[] beginning : BEGINNINGS) {
            List<String> fitting = Arrays.asList(beginning).subList(1, beginning.length);
            for (String token : tokens) {
                RoomsOfAir x = new RoomsOfAir();
                int answer = Checks.readText(x, beginning[0] + token);
                boolean isFaultThere = answer == FAULTS - beginning[0].length() && x.fault() == 1;
                c.due("'" + token + "' behind '" + beginning[0] + "'", isFaultThere ? 1 : 0, fitting.contains(token) ? 0 : 1);
            }
        }
    }

    private static void theEndCannotStandThere(Checks c) {
        String whole = "storm 1 1 0 1 1;";
        for (int length = 1; length < whole.length(); length++) {
            String text = whole.substring(0, length);
            boolean isPartOfTheWord = length < 5;
            fault(c, text, isPartOfTheWord ? 0 : length, 1);
        }
        fault(c, "flight", 6, 1);
        fault(c, "flight 1 1 1 1 way 1 1", 22, 1);
        fault(c, "bear 1 1 \n ", 11, 1);
        RoomsOfAir x = withBlanks(495);
        Checks.feedText(x, "bear ");
        c.due("at the end of a full tape", x.read(), FAULTS - 500);
    }

    private static void numbersThatAreNotAsTold(Checks c) {
        numberIsFrom(c, "flight @ 1 1 1 way 1 1;", 0, 3);
        numberIsFrom(c, "flight 1 @ 1 1 way 1 1;", 1, 9);
        numberIsFrom(c, "flight 1 1 @ 1 way 1 1;", 0, 40);
        numberIsFrom(c, "flight 1 1 1 @ way 1 1;", 0, 99);
        numberIsFrom(c, "flight 1 1 1 1 way @ 1;", 0, 7);
        numberIsFrom(c, "flight 1 1 1 1 way 1 @;", 1, 4);
        numberIsFrom(c, "flight 1 1 1 1 way 1 1,1 1,1 1,1 1,@ 1;", 0, 7);
        numberIsFrom(c, "flight 1 1 1 1 way 1 1,1 1,1 1,1 1,1 @;", 1, 4);
        numberIsFrom(c, "flight 1 1 1 1 way 1 1 way 1 1 way @ 1;", 0, 7);
        numberIsFrom(c, "flight 1 1 1 1 way 1 1 way 1 1 way 1 @;", 1, 4);
    }

    private static void theFourthWay(Checks c) {
        String three = "flight 1 1 1 1 way 1 1 way 1 1 way 1 1 ";
        reads(c, three + ";", 1);
        fault(c, three + "way 1 1;", three.length(), 3);
        fault(c, three + "way", three.length(), 3);
        fault(c, three + "way 999 #", three.length(), 3);
        reads(c, three + ";" + three + ";", 2);
        fault(c, three + ";" + three + "way", 2 * three.length() + 1, 3);
    }

    private static void theSixthLeg(Checks c) {
        String five = "flight 1 1 1 1 way 1 1,1 1,1 1,1 1,1 1";
        reads(c, five + ";", 1);
        fault(c, five + ",1 1;", five.length(), 3);
        fault(c, five + " , 999", five.length() + 1, 3);
        fault(c, five + ",", five.length(), 3);
        String again = " way 1 1,1 1,1 1,1 1,1 1";
        reads(c, five + again + again + ";", 1);
        fault(c, five + again + ",", five.length() + again.length(), 3);
        fault(c, five + again + again + ",", five.length() + 2 * again.length(), 3);
        fault(c, five + again + again + " way", five.length() + 2 * again.length() + 1, 3);
    }

    private static void moreThanThereIsRoomFor(Checks c) {
        RoomsOfAir x = new RoomsOfAir();
        c.due("12 flights at once", Checks.readText(x, FLIGHT.repeat(12)), 12);
        fullFault(c, x, FLIGHT, 0, 4);
        fullFault(c, x, "bear 0 1; flight", 10, 4);
        RoomsOfAir y = new RoomsOfAir();
        c.due("20 storms at once", Checks.readText(y, STORM.repeat(20)), 0);
        c.due("they are there", y.count(2), 20);
        y.look(2);
        c.due("they are felt", y.safe(0, 0, RoomsOfAir.NONE), 1);
        c.due("nothing is too much", y.all(0), 0);
        fullFault(c, y, STORM, 0, 4);
        fullFault(c, y, "bear 0 1; storm", 10, 4);
        c.due("flights still come", Checks.readText(y, FLIGHT), 1);
        c.due("rooms still change", Checks.readText(y, "bear 0 1;"), 1);
        fault(c, FLIGHT.repeat(12) + FLIGHT, 12 * FLIGHT.length(), 4);
        fault(c, STORM.repeat(20) + STORM, 20 * STORM.length(), 4);
    }

    private static void withThoseThatAreThere(Checks c) {
        RoomsOfAir x = Checks.withText(FLIGHT.repeat(11));
        fullFault(c, x, FLIGHT + FLIGHT, FLIGHT.length(), 4);
        c.due("none came", x.count(1), 11);
        c.due("the twelfth", Checks.readText(x, FLIGHT), 12);
        fullFault(c, x, FLIGHT, 0, 4);
        Checks.readText(x, STORM.repeat(19));
        fullFault(c, x, STORM + STORM, STORM.length(), 4);
        c.due("no storm came", x.count(2), 19);
        c.due("the twentieth", Checks.readText(x, STORM), 12);
        c.due("20 storms", x.count(2), 20);
        fullFault(c, x, STORM, 0, 4);
    }

    private static void feedTakesTheLowestBytes(Checks c) {
        String text = "bear 0 3;";
        for (int n = 1; n <= 8; n++) {
            RoomsOfAir x = new RoomsOfAir();
            for (int i = 0; i < text.length(); i += n) {
                int bytes = Math.min(n, text.length() - i);
                long w = -1;
                for (int k = 0; k < bytes; k++) {
                    w = w << 8 | text.charAt(i + k);
                }
                c.due("by " + n + ", from " + i, x.feed(w, bytes), i + bytes);
            }
            c.due("by " + n + ", read", x.read(), 0);
            c.due("by " + n + ", done", x.safe(0, 0, 0), 3);
        }
        RoomsOfAir x = new RoomsOfAir();
        x.feed(Long.MIN_VALUE, 8);
        c.due("the highest bit", x.read(), FAULTS);
    }

    private static void feedIsBad(Checks c) {
        c.takesOnly("n", 1, 8, BAD, n -> new RoomsOfAir().feed(BLANKS, n));
        c.due("ahead of FULL, too many", withBlanks(500).feed(BLANKS, 9), BAD);
        c.due("ahead of FULL, none", withBlanks(500).feed(BLANKS, 0), BAD);
    }

    private static void feedIsFull(Checks c) {
        RoomsOfAir x = withBlanks(493);
        c.due("eight", x.feed(BLANKS, 8), FULL);
        c.due("none came", x.count(6), 493);
        c.due("seven", x.feed(BLANKS, 7), 500);
        c.due("one", x.feed(BLANKS, 1), FULL);
        c.due("none came to the full one", x.count(6), 500);
        c.due("the bytes are as they were", x.read(), 0);
        c.due("then there is room", x.feed(BLANKS, 8), 8);
    }

    private static void theTapeIsEmptyThen(Checks c) {
        RoomsOfAir x = new RoomsOfAir();
        Checks.readText(x, "bear 0 3;");
        c.due("behind a text", x.count(6), 0);
        Checks.readText(x, "bear 0 ");
        c.due("behind a fault", x.count(6), 0);
        c.due("the rest of it is none", Checks.readText(x, "5;"), FAULTS);
        c.due("a second read", x.read(), 0);
        Checks.feedText(x, "bear 0 4;" + " ".repeat(491));
        x.read();
        c.due("behind a full one", x.count(6), 0);
        c.due("it is done", x.safe(0, 0, 0), 4);
    }

    private static void readTellsAllFlights(Checks c) {
        RoomsOfAir x = new RoomsOfAir();
        for (int flights = 1; flights <= 12; flights++) {
            c.due("one by one", Checks.readText(x, FLIGHT), flights);
        }
        c.due("without a new one", Checks.readText(x, "bear 0 1;"), 12);
    }

    private static void theLeastAndTheGreatestPlace(Checks c) {
        c.due("the first byte", Checks.readText(new RoomsOfAir(), "x"), -1000100);
        c.due("the second byte", Checks.readText(new RoomsOfAir(), " x"), -1000101);
        RoomsOfAir last = withBlanks(499);
        last.feed('x', 1);
        c.due("the last byte", last.read(), -1000100 - 499);
        RoomsOfAir end = withBlanks(496);
        Checks.feedText(end, "bear");
        c.due("the end", end.read(), -1000100 - 500);
    }

    private static void aFaultDoesNothing(Checks c) {
        String done = "bear 0 1;storm 1 0 0 48 0;flight 1 1 0 0 way 0 4,1 1 way 2 1;";
        String[] faulty = {"x", "bear 8", "flight 1 1 1 1 way 1 1 way 1 1 way 1 1 way", "storm 1 0 0 1", "flight 1 9 0 0 way 0 1"};
        for (String fault : faulty) {
            RoomsOfAir x = new RoomsOfAir();
            c.holds("a fault: " + fault, Checks.readText(x, done + fault) < FAULTS - done.length() + 1);
            c.due("no flight", x.count(1), 0);
            c.due("no storm", x.count(2), 0);
            c.due("no room", x.safe(0, 0, 0), 9);
            c.due("no storm felt", x.safe(0, 0, 1), 9);
            c.due("no load", x.load(0, 0, 0), 0);
            c.due("what comes then is all there is", Checks.readText(x, "flight 2 2 2 2 way 2 2;storm 1 2 0 1 2;"), 1);
            c.due("its ways", x.told(0, 4), 1);
            c.due("its legs", x.leg(0, 0, 1, 0), RoomsOfAir.NONE);
            c.due("one storm", x.count(2), 1);
            c.due("of its own room", x.safe(0, 0, 1), 9);
            c.due("behind its last slot", x.at(0, 4), RoomsOfAir.NONE);
            x.look(15);
            c.due("safe in all worlds", x.safe(0, 0, RoomsOfAir.NONE), 9);
            c.due("nothing is too much", x.all(0), 0);
        }
        faultyStormsAndFlightsDoNotCount(c);
    }

    private static void faultyStormsAndFlightsDoNotCount(Checks c) {
        RoomsOfAir x = Checks.withText("bear 0 1;flight 1 2 0 0 way 0 1;");
        x.look(15);
        Checks.readText(x, "storm 1 0 0 1 0;flight 3 9 0 0 way 0 1;x");
        c.due("load", x.load(0, 0, 0), 2);
        c.due("too much", x.load(0, 0, 1), 1);
        c.due("blame", x.airline(1, 3), 1);
        c.due("blame of what never came", x.airline(3, 3), 0);
        c.due("flights of what never came", x.airline(3, 0), 0);
        c.due("known", x.known(0, 0, 9), 2);
    }

    private static void theLatestFaultStays(Checks c) {
        RoomsOfAir x = new RoomsOfAir();
        Checks.readText(x, "bear 8");
        c.due("the first", x.fault(), 2);
        Checks.readText(x, "bear 0 1;");
        c.due("a good text leaves it", x.fault(), 2);
        Checks.readText(x, "x");
        c.due("a later one", x.fault(), 1);
        x.read();
        c.due("an empty text leaves it", x.fault(), 1);
    }

    private static void noFaultAtFirst(Checks c) {
        RoomsOfAir x = new RoomsOfAir();
        c.due("at first", x.fault(), 0);
        Checks.feedText(x, "x");
        c.due("before it is read", x.fault(), 0);
        x.read();
        c.due("then", x.fault(), 1);
        reads(c, FLIGHT + STORM, 1);
    }
}
