import java.util.ArrayList;
import java.util.List;
import java.util.function.Supplier;

/** All there is to ask of an object, but for status(), asked of fresh objects that are made alike: each has 512 calls at most. */
final class Views {
    private static final int NONE = RoomsOfAir.NONE, ROOMS = 8, SLOTS = 48, FLIGHTS = 12;

    private interface View {
        void ask(RoomsOfAir x, List<Integer> answers);
    }

    private interface OfCell {
        int ask(RoomsOfAir x, int room, int slot);
    }

    private static final OfCell[] CELLS = {
        (x, room, slot) -> x.safe(room, slot, 0), (x, room, slot) -> x.safe(room, slot, 1), (x, room, slot) -> x.safe(room, slot, 2),
        (x, room, slot) -> x.safe(room, slot, 3), (x, room, slot) -> x.safe(room, slot, NONE), (x, room, slot) -> x.load(room, slot, 0),
        (x, room, slot) -> x.load(room, slot, 1), (x, room, slot) -> x.known(room, slot, Integer.MAX_VALUE)
    };

    private static final View[] OTHERS = {
        Views::flights, Views::legs, (x, answers) -> places(x, answers, 0), (x, answers) -> places(x, answers, 6), Views::sums,
        Views::splits, Views::swaps, Views::tape, Views::lanes, (x, answers) -> items(x, answers, 0), (x, answers) -> items(x, answers, 4)
    };

    private Views() {
    }

    static List<Integer> of(Supplier<RoomsOfAir> made) {
        List<Integer> answers = new ArrayList<>();
        for (OfCell cell : CELLS) {
            RoomsOfAir x = made.get();
            for (int room = 0; room < ROOMS; room++) {
                for (int slot = 0; slot < SLOTS; slot++) {
                    answers.add(cell.ask(x, room, slot));
                }
            }
        }
        for (View view : OTHERS) {
            view.ask(made.get(), answers);
        }
        return answers;
    }

    private static void flights(RoomsOfAir x, List<Integer> answers) {
        for (int flight = 0; flight < FLIGHTS; flight++) {
            for (int what = 0; what <= 7; what++) {
                answers.add(x.told(flight, what));
            }
            answers.add(x.kind(flight));
            answers.add(x.known(0, 0, flight));
        }
    }

    private static void legs(RoomsOfAir x, List<Integer> answers) {
        for (int flight = 0; flight < FLIGHTS; flight++) {
            for (int way = 0; way < 3; way++) {
                for (int i = 0; i < 5; i++) {
                    answers.add(x.leg(flight, way, i, 0));
                    answers.add(x.leg(flight, way, i, 1));
                }
            }
        }
    }

    private static void places(RoomsOfAir x, List<Integer> answers, int from) {
        for (int flight = from; flight < from + 6; flight++) {
            for (int slot = 0; slot < SLOTS; slot++) {
                answers.add(x.at(flight, slot));
            }
        }
    }

    private static void sums(RoomsOfAir x, List<Integer> answers) {
        for (int i = 0; i <= 16; i++) {
            answers.add(x.trace(i));
        }
        for (int what = 0; what <= 7; what++) {
            answers.add(x.all(what));
            answers.add(x.count(what));
        }
        for (int airline = 0; airline < 4; airline++) {
            for (int what = 0; what <= 4; what++) {
                answers.add(x.airline(airline, what));
            }
        }
        answers.add(x.fault());
        answers.add(x.look(1));
    }

    private static void splits(RoomsOfAir x, List<Integer> answers) {
        answers.add(x.split(NONE));
        for (int slot = 0; slot < SLOTS; slot++) {
            answers.add(x.split(slot));
        }
    }

    private static void swaps(RoomsOfAir x, List<Integer> answers) {
        for (int a = 0; a < FLIGHTS; a++) {
            for (int b = 0; b < FLIGHTS; b++) {
                answers.add(x.harmless(a, b));
            }
        }
        answers.add(x.swap());
    }

    private static void tape(RoomsOfAir x, List<Integer> answers) {
        answers.add(Checks.feedText(x, "8;#"));
        answers.add(x.read());
        answers.add(x.fault());
        answers.add(x.count(6));
    }

    private static void lanes(RoomsOfAir x, List<Integer> answers) {
        for (int sheet = 0; sheet < 8; sheet++) {
            answers.add(x.set(sheet, 0, 0x12345678));
            answers.add(x.drop(sheet));
        }
    }

    /** Items of 0 to 99 are seen through what a room bears. */
    private static void items(RoomsOfAir x, List<Integer> answers, int from) {
        for (int sheet = from; sheet < from + 4; sheet++) {
            for (int i = 0; i < 48; i++) {
                answers.add(x.bears(7, 0, sheet, i, 1));
                answers.add(x.safe(7, 0, 0));
            }
        }
    }
}
