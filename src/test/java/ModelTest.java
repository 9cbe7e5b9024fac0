import java.util.Random;

/** Runs of many calls, good and bad ones, whose answers must be those of the plain model. */
public final class ModelTest {
    private static final int NONE = RoomsOfAir.NONE;
    private static final int[] EDGES = {-1, -2, 48, 49, 100, 500, NONE, RoomsOfAir.BAD, Integer.MIN_VALUE, Integer.MAX_VALUE};
    /** What later calls of an object answer is free. */
    private static final int MOST_CALLS = 512;
    private static final Checks CHECKS = new Checks();

    private final Random random;
    private final RoomsOfAir air = new RoomsOfAir();
    private final PlainModel model = new PlainModel();
    private final String run;
    private int calls = 0;

    private ModelTest(int seed) {
        random = new Random(seed);
        run = "run " + seed + ": ";
    }

    public static void main(String[] args) {
        int from = args.length > 0 ? Integer.parseInt(args[0]) : 0;
        int runs = args.length > 1 ? Integer.parseInt(args[1]) : 300;
        for (int seed = from; seed < from + runs; seed++) {
            new ModelTest(seed).runOnce();
        }
        CHECKS.finish();
    }

    private void runOnce() {
        int texts = 2 + random.nextInt(6);
        for (int i = 0; i < texts && calls < MOST_CALLS; i++) {
            feedAndRead();
            for (int k = 0; k < 25 && calls < MOST_CALLS; k++) {
                anyCall();
            }
        }
        for (int what = 0; what <= 8; what++) {
            due("count(" + what + ")", air.count(what), model.count(what));
        }
    }

    private void due(String call, int got, int want) {
        calls++;
        if (calls <= MOST_CALLS) {
            CHECKS.due(run + call, got, want);
        }
    }

    /** Mostly within 0 to most, now and then beyond it. */
    private int about(int most) {
        int dice = random.nextInt(40);
        if (dice == 0) {
            return EDGES[random.nextInt(EDGES.length)];
        }
        return dice == 1 ? most + 1 : random.nextInt(most + 1);
    }

    private int flight() {
        return about(Math.max(0, model.count(1) - 1));
    }

    private void feedAndRead() {
        StringBuilder text = new StringBuilder();
        int statements = 1 + random.nextInt(6);
        for (int i = 0; i < statements; i++) {
            text.append(statement());
        }
        if (random.nextInt(3) == 0) {
            damage(text);
        }
        int i = 0;
        while (i < text.length()) {
            int n = Math.min(1 + random.nextInt(8), text.length() - i);
            long w = random.nextInt();
            for (int k = 0; k < n; k++) {
                w = w << 8 | text.charAt(i + k);
            }
            due("feed of '" + text.substring(i, i + n) + "'", air.feed(w, n), model.feed(w, n));
            i += n;
        }
        due("read of '" + text + "'", air.read(), model.read());
        due("fault", air.fault(), model.fault());
        due("count(1)", air.count(1), model.count(1));
        due("count(2)", air.count(2), model.count(2));
    }

    private String gap() {
        String[] gaps = {" ", " ", " ", "  ", "\n", " \n "};
        return gaps[random.nextInt(gaps.length)];
    }

    private String number(int least, int most) {
        int value = least + random.nextInt(most - least + 1);
        if (random.nextInt(150) == 0) {
            value = random.nextInt(120);
        }
        return gap() + (random.nextInt(30) == 0 ? "0" : "") + value;
    }

    private String statement() {
        StringBuilder text = new StringBuilder();
        int dice = random.nextInt(10);
        if (dice < 2) {
            text.append("bear").append(number(0, 7)).append(number(0, 12));
        } else if (dice < 4) {
            int from = random.nextInt(48);
            text.append("storm").append(number(1, 3)).append(number(0, 7)).append(gap()).append(from);
            text.append(number(from + 1, 48)).append(number(0, 9));
        } else {
            int latest = random.nextInt(5) == 0 ? 40 : 3;
            text.append("flight").append(number(0, 3)).append(number(1, 9)).append(number(0, latest));
            text.append(random.nextInt(3) == 0 ? " 0" : number(0, 12));
            for (int ways = 1 + random.nextInt(3); ways > 0; ways--) {
                text.append(gap()).append("way").append(number(0, 2)).append(number(1, 4));
                for (int legs = random.nextInt(3); legs > 0; legs--) {
                    text.append(",").append(number(0, 7)).append(number(1, 4));
                }
            }
        }
        return text.append(random.nextInt(4) == 0 ? " ;" : ";").toString();
    }

    private void damage(StringBuilder text) {
        int place = random.nextInt(text.length());
        String[] pieces = {";", ",", "way", "way 0 1", ", 1 1", "7", "100", "1234", "bear", "flight", "x", "#", "\t", "\u00ff", "\0"};
        switch (random.nextInt(4)) {
            case 0:
                text.deleteCharAt(place);
                break;
            case 1:
                text.setLength(place);
                break;
            default:
                text.insert(place, pieces[random.nextInt(pieces.length)]);
                break;
        }
    }

    private void anyCall() {
        switch (random.nextInt(6)) {
            case 0:
                sheetCall();
                break;
            case 1:
                landCall();
                break;
            case 2:
                flightCall();
                break;
            case 3:
                loadCall();
                break;
            case 4:
                planCall();
                break;
            default:
                askCall();
                break;
        }
        due("status", air.status(), model.status());
    }

    private void sheetCall() {
        int a = about(2), b = about(2), i = about(6), j = about(6), n = about(8), v = random.nextInt() >> random.nextInt(32);
        switch (random.nextInt(5)) {
            case 0:
                n = random.nextInt(4) == 0 ? about(48) : 8 + n;
                due("sheet(" + a + ", " + b + ", " + n + ")", air.sheet(a, b, n), model.sheet(a, b, n));
                break;
            case 1:
            case 2:
                v = random.nextBoolean() ? v : random.nextInt(11);
                due("set(" + a + ", " + i + ", " + v + ")", air.set(a, i, v), model.set(a, i, v));
                break;
            case 3:
                due("copy(" + a + ", " + i + ", " + b + ", " + j + ", " + n + ")", air.copy(a, i, b, j, n), model.copy(a, i, b, j, n));
                break;
            default:
                if (random.nextInt(4) == 0) {
                    due("drop(" + a + ")", air.drop(a), model.drop(a));
                }
                break;
        }
    }

    private void landCall() {
        int room = about(7), slot = random.nextBoolean() ? about(6) : about(47), sheet = about(2), i = about(5), n = 1 + about(7);
        switch (random.nextInt(4)) {
            case 0:
                due("bears(" + room + ", " + slot + ", " + sheet + ", " + i + ", " + n + ")",
                    air.bears(room, slot, sheet, i, n), model.bears(room, slot, sheet, i, n));
                break;
            case 1:
                giveStaff(slot, sheet, i, n);
                break;
            case 2:
                int worlds = random.nextInt(4) == 0 ? 1 : about(15);
                due("look(" + worlds + ")", air.look(worlds), model.look(worlds));
                break;
            default:
                int world = random.nextInt(3) == 0 ? NONE : about(3);
                due("safe(" + room + ", " + slot + ", " + world + ")", air.safe(room, slot, world), model.safe(room, slot, world));
                break;
        }
    }

    private void giveStaff(int slot, int sheet, int i, int n) {
        if (random.nextBoolean()) {
            due("staff(" + slot + ", " + sheet + ", " + i + ", " + n + ")", air.staff(slot, sheet, i, n), model.staff(slot, sheet, i, n));
            return;
        }
        due("sheet", air.sheet(7, 0, 48), model.sheet(7, 0, 48));
        for (int k = 0; k < 48; k++) {
            int crew = k < 12 || random.nextInt(4) == 0 ? random.nextInt(4) : 0;
            due("set", air.set(7, k, crew), model.set(7, k, crew));
        }
        due("staff of all", air.staff(0, 7, 0, 48), model.staff(0, 7, 0, 48));
    }

    private void flightCall() {
        int flight = flight(), way = about(2), delay = about(4), what = about(7), slot = about(12);
        switch (random.nextInt(5)) {
            case 0:
                due("told(" + flight + ", " + what + ")", air.told(flight, what), model.told(flight, what));
                break;
            case 1:
                int i = about(5), part = about(1);
                due("leg(" + flight + ", " + way + ", " + i + ", " + part + ")", air.leg(flight, way, i, part), model.leg(flight, way, i, part));
                break;
            case 2:
            case 3:
                due("choose(" + flight + ", " + way + ", " + delay + ")", air.choose(flight, way, delay), model.choose(flight, way, delay));
                break;
            default:
                due("at(" + flight + ", " + slot + ")", air.at(flight, slot), model.at(flight, slot));
                break;
        }
    }

    private void loadCall() {
        int room = about(7), slot = random.nextBoolean() ? about(12) : about(47), what = about(1), moment = about(12);
        switch (random.nextInt(4)) {
            case 0:
                due("load(" + room + ", " + slot + ", " + what + ")", air.load(room, slot, what), model.load(room, slot, what));
                break;
            case 1:
                what = about(5);
                due("all(" + what + ")", air.all(what), model.all(what));
                break;
            case 2:
                due("known(" + room + ", " + slot + ", " + moment + ")", air.known(room, slot, moment), model.known(room, slot, moment));
                break;
            default:
                int airline = about(3);
                what = about(4);
                due("airline(" + airline + ", " + what + ")", air.airline(airline, what), model.airline(airline, what));
                break;
        }
    }

    private void planCall() {
        int a = flight(), b = flight();
        switch (random.nextInt(4)) {
            case 0:
                int slot = random.nextInt(3) == 0 ? NONE : about(14);
                due("split(" + slot + ")", air.split(slot), model.split(slot));
                break;
            case 1:
                settle();
                break;
            case 2:
                due("harmless(" + a + ", " + b + ")", air.harmless(a, b), model.harmless(a, b));
                break;
            default:
                due("swap()", air.swap(), model.swap());
                allChoices();
                break;
        }
    }

    private void settle() {
        int bits = 1 << random.nextInt(13);
        int many = random.nextInt(random.nextInt(40) == 0 ? 6 : 3);
        for (int i = 0; i < many; i++) {
            bits |= 1 << random.nextInt(Math.max(1, model.count(1)));
        }
        due("settle(" + bits + ")", air.settle(bits), model.settle(bits));
        allChoices();
    }

    private void allChoices() {
        for (int flight = 0; flight < model.count(1); flight++) {
            due("told(" + flight + ", 5)", air.told(flight, 5), model.told(flight, 5));
            due("told(" + flight + ", 6)", air.told(flight, 6), model.told(flight, 6));
        }
    }

    private void askCall() {
        int flight = flight(), kind = about(3), what = about(1), which = about(7);
        switch (random.nextInt(4)) {
            case 0:
                due("kind(" + flight + ")", air.kind(flight), model.kind(flight));
                break;
            case 1:
                due("as(" + flight + ", " + kind + ")", air.as(flight, kind), model.as(flight, kind));
                break;
            case 2:
                due("ask(" + flight + ", " + what + ")", air.ask(flight, what), model.ask(flight, what));
                for (int i = -1; i < 6; i++) {
                    due("trace(" + i + ")", air.trace(i), model.trace(i));
                }
                break;
            default:
                due("count(" + which + ")", air.count(which), model.count(which));
                break;
        }
    }
}
