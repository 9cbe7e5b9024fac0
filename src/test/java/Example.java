/** A first program with RoomsOfAir. */
public final class Example {
    public static void main(String[] args) {
        RoomsOfAir air = new RoomsOfAir();

        // What two rooms bear, a storm that world 1 may bring, and three flights, told in texts.
        show(tell(air, "bear 0 5; bear 1 4; storm 1 2 0 9 2;"));  // 0: no flight is there yet
        show(tell(air, "flight 0 3 0 10 way 0 2, 1 2;"));         // 1: airline 0, weight 3, slot 0, rate 10
        show(tell(air, "flight 1 3 1 5 way 0 2, 1 1 way 2 4;"));  // 2: this one has two ways
        show(tell(air, "flight 2 2 0 0 way 1 4, 0 1;"));          // 3
        show(tell(air, "flight 0 1 41 1 way 0 1;"));              // -1000111: a fault at byte 11, nothing is done
        show(air.fault());                                        // 2: a number that is not as told

        // What comes of it.
        show(air.load(0, 1, 0));                                  // 6: in room 0 in slot 1
        show(air.load(0, 1, 1));                                  // 1: too much there
        show(air.all(0));                                         // 6: too much in all rooms and slots
        show(air.airline(0, 3));                                  // 4: airline 0 is to blame for so much of it

        // Staff for slots 0 to 3 comes from a sheet of bytes; rooms are split as it allows.
        show(air.sheet(0, 0, 4));                                 // 4
        show(air.set(0, 3, 1));                                   // 1
        show(air.staff(0, 0, 0, 4));                              // 4: no one in slots 0 to 2, one in slot 3
        show(air.split(RoomsOfAir.NONE));                         // 42: the least harm
        show(air.split(3));                                       // 2: room 1 is split in slot 3

        // Delays and ways of least cost, so that nothing is too much in world 0 nor in world 1.
        show(air.look(3));                                        // 1: world 0 alone was looked at
        show(air.settle(7));                                      // 35: flights 0, 1, 2 together
        show(air.told(0, 6));                                     // 2: the delay of flight 0
        show(air.told(1, 6));                                     // 3: the delay of flight 1
        show(air.all(0));                                         // 0

        // What is refused is told by the answer, and changes nothing.
        show(air.set(5, 0, 1));                                   // -1000011: sheet 5 is missing
        show(air.status());                                       // 1: NULL
        show(air.told(9, 0));                                     // -1000001: BAD, there is no flight 9
    }

    /** Feeds a text, eight bytes a call, and has it read. */
    private static int tell(RoomsOfAir air, String text) {
        for (int i = 0; i < text.length(); i += 8) {
            int n = Math.min(8, text.length() - i);
            long w = 0;
            for (int k = 0; k < n; k++) {
                w = w << 8 | text.charAt(i + k);
            }
            air.feed(w, n);
        }
        return air.read();
    }

    private static void show(int answer) {
        System.out.println(answer);
    }
}
