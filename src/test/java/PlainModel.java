import java.util.ArrayList;
import java.util.Arrays;
import java.util.List;
import java.util.regex.Matcher;
import java.util.regex.Pattern;

/**
 * The document once more, as plainly as the Java library allows and by other means than the class:
 * everything is worked out anew for each call, and every choice is tried.
 */
final class PlainModel {
    private static final int NONE = -1000000, BAD = -1000001, FULL = -1000003;
    private static final Pattern TOKEN = Pattern.compile("[a-z]+|[0-9]+|[^ \n]", Pattern.DOTALL);

    private static final class Way {
        final List<int[]> legs = new ArrayList<>();
    }

    private static final class Plane {
        int airline, weight, slot, rate, way, delay;
        final List<Way> ways = new ArrayList<>();

        int cost() {
            return rate * delay + 10 * way;
        }
    }

    private static final class Fault extends Exception {
        private static final long serialVersionUID = 1;
        final int number, place;

        Fault(int number, int place) {
            this.number = number;
            this.place = place;
        }
    }

    private final int[][] sheets = new int[8][];
    private final int[] lanes = new int[8];
    private final int[][] bears = new int[8][48];
    private final int[] staff = new int[48];
    private final List<int[]> storms = new ArrayList<>();
    private final List<Plane> planes = new ArrayList<>();
    private final List<Integer> trace = new ArrayList<>();
    private final StringBuilder tape = new StringBuilder();
    private int worlds = 1, fault = 0, status = 0;

    PlainModel() {
        for (int[] row : bears) {
            Arrays.fill(row, 9);
        }
    }

    private static boolean in(int v, int least, int most) {
        return least <= v && v <= most;
    }

    private int finding(int number) {
        status = number;
        return -1000010 - number;
    }

    private int fine(int answer) {
        status = 0;
        return answer;
    }

    int sheet(int sheet, int lane, int n) {
        if (!in(sheet, 0, 7) || !in(lane, 0, 2) || n > 48) return BAD;
        if (n < 0) return finding(4);
        sheets[sheet] = new int[n];
        lanes[sheet] = lane;
        return fine(n);
    }

    int set(int sheet, int i, int v) {
        if (!in(sheet, 0, 7)) return BAD;
        if (sheets[sheet] == null) return finding(1);
        if (!in(i, 0, sheets[sheet].length - 1)) return finding(2);
        int bits = 8 << lanes[sheet];
        sheets[sheet][i] = v << 32 - bits >> 32 - bits;
        return fine(sheets[sheet][i]);
    }

    int copy(int a, int i, int b, int j, int n) {
        if (!in(a, 0, 7) || !in(b, 0, 7)) return BAD;
        if (sheets[a] == null || sheets[b] == null) return finding(1);
        if (lanes[a] != lanes[b]) return finding(5);
        if (i < 0 || j < 0 || n < 0) return finding(2);
        if ((long) i + n > sheets[a].length || (long) j + n > sheets[b].length) return finding(2);
        int[] ahead = sheets[a].clone();
        for (int k = 0; k < n; k++) {
            sheets[b][j + k] = ahead[i + k];
        }
        return fine(n);
    }

    int drop(int sheet) {
        if (!in(sheet, 0, 7)) return BAD;
        if (sheets[sheet] == null) return finding(1);
        int had = sheets[sheet].length;
        sheets[sheet] = null;
        return fine(had);
    }

    int bears(int room, int slot, int sheet, int i, int n) {
        return in(room, 0, 7) ? fill(bears[room], slot, sheet, i, n, 99) : BAD;
    }

    int staff(int slot, int sheet, int i, int n) {
        return fill(staff, slot, sheet, i, n, 9);
    }

    private int fill(int[] row, int slot, int sheet, int i, int n, int most) {
        if (!in(slot, 0, 47) || !in(n, 1, 48) || slot + n > 48 || !in(sheet, 0, 7)) return BAD;
        if (sheets[sheet] == null) return finding(1);
        if (i < 0 || (long) i + n > sheets[sheet].length) return finding(2);
        for (int k = 0; k < n; k++) {
            if (!in(sheets[sheet][i + k], 0, most)) return BAD;
        }
        for (int k = 0; k < n; k++) {
            row[slot + k] = sheets[sheet][i + k];
        }
        return fine(n);
    }

    int look(int looked) {
        if (!in(looked, 1, 15)) return BAD;
        int were = worlds;
        worlds = looked;
        return were;
    }

    int safe(int room, int slot, int world) {
        if (!in(room, 0, 7) || !in(slot, 0, 47)) return BAD;
        if (world != NONE) return in(world, 0, 3) ? inWorld(room, slot, world) : BAD;
        int least = 99;
        for (int w = 0; w < 4; w++) {
            if ((worlds & 1 << w) != 0) least = Math.min(least, inWorld(room, slot, w));
        }
        return least;
    }

    private int inWorld(int room, int slot, int world) {
        int least = bears[room][slot];
        for (int[] s : storms) {
            if (s[0] == world && s[1] == room && in(slot, s[2], s[3] - 1)) least = Math.min(least, s[4]);
        }
        return least;
    }

    int feed(long w, int n) {
        if (!in(n, 1, 8)) return BAD;
        if (tape.length() + n > 500) return FULL;
        for (int i = n - 1; i >= 0; i--) {
            tape.append((char) (w >>> 8 * i & 255));
        }
        return tape.length();
    }

    private List<String> words;
    private List<Integer> places;
    private int next;

    int read() {
        words = new ArrayList<>();
        places = new ArrayList<>();
        Matcher matcher = TOKEN.matcher(tape);
        while (matcher.find()) {
            words.add(matcher.group());
            places.add(matcher.start());
        }
        words.add("");
        places.add(tape.length());
        next = 0;
        tape.setLength(0);
        List<int[]> newBears = new ArrayList<>();
        List<int[]> newStorms = new ArrayList<>();
        List<Plane> newPlanes = new ArrayList<>();
        try {
            while (!words.get(next).isEmpty()) {
                statement(newBears, newStorms, newPlanes);
            }
        } catch (Fault f) {
            fault = f.number;
            return -1000100 - f.place;
        }
        for (int[] bear : newBears) {
            Arrays.fill(bears[bear[0]], bear[1]);
        }
        storms.addAll(newStorms);
        planes.addAll(newPlanes);
        return planes.size();
    }

    private Fault faultHere(int number) {
        return new Fault(number, places.get(next));
    }

    private void statement(List<int[]> newBears, List<int[]> newStorms, List<Plane> newPlanes) throws Fault {
        String word = words.get(next);
        if (word.equals("bear")) {
            next++;
            newBears.add(new int[] {number(0, 7), number(0, 99)});
        } else if (word.equals("storm")) {
            if (storms.size() + newStorms.size() == 20) throw faultHere(4);
            next++;
            int world = number(1, 3), room = number(0, 7), from = number(0, 47), to = number(from + 1, 48);
            newStorms.add(new int[] {world, room, from, to, number(0, 99)});
        } else if (word.equals("flight")) {
            if (planes.size() + newPlanes.size() == 12) throw faultHere(4);
            next++;
            newPlanes.add(flight());
        } else {
            throw faultHere(1);
        }
        if (!words.get(next).equals(";")) throw faultHere(1);
        next++;
    }

    private Plane flight() throws Fault {
        Plane plane = new Plane();
        plane.airline = number(0, 3);
        plane.weight = number(1, 9);
        plane.slot = number(0, 40);
        plane.rate = number(0, 99);
        do {
            if (!words.get(next).equals("way")) throw faultHere(1);
            if (plane.ways.size() == 3) throw faultHere(3);
            Way way = new Way();
            plane.ways.add(way);
            do {
                if (way.legs.size() == 5) throw faultHere(3);
                next++;
                way.legs.add(new int[] {number(0, 7), number(1, 4)});
            } while (words.get(next).equals(","));
        } while (words.get(next).equals("way"));
        return plane;
    }

    private int number(int least, int most) throws Fault {
        if (!words.get(next).matches("[0-9]{1,3}")) throw faultHere(1);
        int value = Integer.parseInt(words.get(next));
        if (!in(value, least, most)) throw faultHere(2);
        next++;
        return value;
    }

    int fault() {
        return fault;
    }

    private Plane plane(int i) {
        return in(i, 0, planes.size() - 1) ? planes.get(i) : null;
    }

    int told(int flight, int what) {
        Plane p = plane(flight);
        if (p == null || !in(what, 0, 7)) return BAD;
        return new int[] {p.airline, p.weight, p.slot, p.rate, p.ways.size(), p.way, p.delay, p.cost()}[what];
    }

    int leg(int flight, int way, int i, int what) {
        Plane p = plane(flight);
        if (p == null || !in(way, 0, p.ways.size() - 1) || !in(what, 0, 1)) return BAD;
        List<int[]> legs = p.ways.get(way).legs;
        return in(i, 0, legs.size() - 1) ? legs.get(i)[what] : NONE;
    }

    int choose(int flight, int way, int delay) {
        Plane p = plane(flight);
        if (p == null || !in(way, 0, p.ways.size() - 1) || !in(delay, 0, 4)) return BAD;
        p.way = way;
        p.delay = delay;
        return p.cost();
    }

    private static List<Integer> rooms(Plane p, int way) {
        List<Integer> rooms = new ArrayList<>();
        for (int[] leg : p.ways.get(way).legs) {
            for (int k = 0; k < leg[1]; k++) {
                rooms.add(leg[0]);
            }
        }
        return rooms;
    }

    private static int roomOf(Plane p, int way, int delay, int slot) {
        List<Integer> rooms = rooms(p, way);
        int step = slot - p.slot - delay;
        return in(step, 0, rooms.size() - 1) ? rooms.get(step) : NONE;
    }

    int at(int flight, int slot) {
        Plane p = plane(flight);
        return p == null || !in(slot, 0, 47) ? BAD : roomOf(p, p.way, p.delay, slot);
    }

    private int[][] loads() {
        int[][] loads = new int[8][48];
        for (Plane p : planes) {
            List<Integer> rooms = rooms(p, p.way);
            for (int k = 0; k < rooms.size(); k++) {
                if (p.slot + p.delay + k < 48) loads[rooms.get(k)][p.slot + p.delay + k] += p.weight;
            }
        }
        return loads;
    }

    private int[][] tooMuch() {
        int[][] loads = loads();
        for (int room = 0; room < 8; room++) {
            for (int slot = 0; slot < 48; slot++) {
                loads[room][slot] = Math.max(0, loads[room][slot] - safe(room, slot, NONE));
            }
        }
        return loads;
    }

    private static int sum(int[][] rows) {
        return Arrays.stream(rows).flatMapToInt(Arrays::stream).sum();
    }

    int load(int room, int slot, int what) {
        if (!in(room, 0, 7) || !in(slot, 0, 47) || !in(what, 0, 1)) return BAD;
        return what == 0 ? loads()[room][slot] : tooMuch()[room][slot];
    }

    int all(int what) {
        switch (what) {
            case 0: return sum(tooMuch());
            case 1: return planes.stream().mapToInt(Plane::cost).sum();
            case 2: return planes.stream().mapToInt(p -> p.delay).sum();
            case 3:
                int far = 0;
                for (int a = 0; a < 4; a++) {
                    far += Math.abs(airline(a, 1) - airline(a, 2));
                }
                return far;
            case 4: return (int) Arrays.stream(tooMuch()).flatMapToInt(Arrays::stream).filter(t -> t > 0).count();
            case 5: return Arrays.stream(loads()).flatMapToInt(Arrays::stream).max().getAsInt();
            default: return BAD;
        }
    }

    int known(int room, int slot, int moment) {
        if (!in(room, 0, 7) || !in(slot, 0, 47) || moment < 0) return BAD;
        int load = 0;
        for (int i = 0; i < planes.size(); i++) {
            if (i <= moment && roomOf(planes.get(i), 0, 0, slot) == room) load += planes.get(i).weight;
        }
        return load;
    }

    int split(int slot) {
        if (slot != NONE && !in(slot, 0, 47)) return BAD;
        int[][] loads = loads();
        int[][] after = new int[49][64];
        for (int s = 47; s >= 0; s--) {
            for (int ahead = 0; ahead < 64; ahead++) {
                after[s][ahead] = harm(loads, after, s, ahead, bestSet(loads, after, s, ahead));
            }
        }
        if (slot == NONE) return after[0][0];
        int set = 0;
        for (int s = 0; s <= slot; s++) {
            set = bestSet(loads, after, s, set);
        }
        return set;
    }

    private int bestSet(int[][] loads, int[][] after, int slot, int ahead) {
        int best = 0;
        for (int set = 1; set < 64; set++) {
            boolean isStaffed = Integer.bitCount(set) <= staff[slot];
            if (isStaffed && harm(loads, after, slot, ahead, set) < harm(loads, after, slot, ahead, best)) best = set;
        }
        return best;
    }

    private int harm(int[][] loads, int[][] after, int slot, int ahead, int set) {
        return 10 * tooMuchWith(loads, slot, set) + Integer.bitCount(ahead ^ set) + after[slot + 1][set];
    }

    private int tooMuchWith(int[][] loads, int slot, int set) {
        int much = 0;
        for (int room = 0; room < 8; room++) {
            if (loads[room][slot] == 0) continue;
            int safe = safe(room, slot, NONE);
            if ((set >> room & 1) == 1) safe += safe / 2;
            much += Math.max(0, loads[room][slot] - safe);
        }
        return much;
    }

    int settle(int flights) {
        List<Plane> members = new ArrayList<>();
        for (int i = 0; i < 32; i++) {
            if ((flights >>> i & 1) == 1) {
                if (plane(i) == null) return BAD;
                members.add(planes.get(i));
            }
        }
        if (!in(members.size(), 1, 5)) return BAD;
        int[][] were = new int[members.size()][];
        for (int i = 0; i < were.length; i++) {
            were[i] = new int[] {members.get(i).way, members.get(i).delay};
        }
        best = null;
        bestCost = Integer.MAX_VALUE;
        tryAll(members, 0);
        int[][] taken = best == null ? were : best;
        for (int i = 0; i < were.length; i++) {
            members.get(i).way = taken[i][0];
            members.get(i).delay = taken[i][1];
        }
        return best == null ? NONE : bestCost;
    }

    private int[][] best;
    private int bestCost;

    private void tryAll(List<Plane> members, int i) {
        if (i < members.size()) {
            Plane p = members.get(i);
            for (int way = 0; way < p.ways.size(); way++) {
                for (int delay = 0; delay <= 4; delay++) {
                    p.way = way;
                    p.delay = delay;
                    tryAll(members, i + 1);
                }
            }
            return;
        }
        int cost = members.stream().mapToInt(Plane::cost).sum();
        if (cost < bestCost && nothingTooMuch(members)) {
            bestCost = cost;
            best = members.stream().map(p -> new int[] {p.way, p.delay}).toArray(int[][]::new);
        }
    }

    private boolean nothingTooMuch(List<Plane> members) {
        int[][] loads = loads();
        for (Plane p : members) {
            if (isCrowded(p, loads)) return false;
        }
        return true;
    }

    private boolean isCrowded(Plane p, int[][] loads) {
        List<Integer> rooms = rooms(p, p.way);
        for (int k = 0; k < rooms.size(); k++) {
            int slot = p.slot + p.delay + k;
            if (slot < 48 && loads[rooms.get(k)][slot] > safe(rooms.get(k), slot, NONE)) return true;
        }
        return false;
    }

    int harmless(int a, int b) {
        Plane p = plane(a), q = plane(b);
        if (p == null || q == null || p.airline == q.airline) return BAD;
        int much = sum(tooMuch()), costP = p.cost(), costQ = q.cost();
        exchange(p, q);
        boolean is = sum(tooMuch()) <= much && p.cost() <= costP && q.cost() <= costQ && p.cost() + q.cost() < costP + costQ;
        exchange(p, q);
        return is ? 1 : 0;
    }

    private static void exchange(Plane p, Plane q) {
        int delay = p.delay;
        p.delay = q.delay;
        q.delay = delay;
    }

    int swap() {
        for (int a = 0; a < planes.size(); a++) {
            for (int b = a + 1; b < planes.size(); b++) {
                if (harmless(a, b) == 1) {
                    exchange(planes.get(a), planes.get(b));
                    return 100 * a + b;
                }
            }
        }
        return NONE;
    }

    int airline(int airline, int what) {
        if (!in(airline, 0, 3) || !in(what, 0, 4)) return BAD;
        int[] flights = new int[4], delays = new int[4], costs = new int[4];
        for (Plane p : planes) {
            flights[p.airline]++;
            delays[p.airline] += p.delay;
            costs[p.airline] += p.cost();
        }
        int[] shares = parts(Arrays.stream(delays).sum(), flights);
        return new int[] {flights[airline], delays[airline], shares[airline], blame(airline), costs[airline]}[what];
    }

    private int blame(int airline) {
        int[][] much = tooMuch();
        int blame = 0;
        for (int room = 0; room < 8; room++) {
            for (int slot = 0; slot < 48; slot++) {
                if (much[room][slot] == 0) continue;
                int[] weights = new int[4];
                for (Plane p : planes) {
                    if (roomOf(p, p.way, p.delay, slot) == room) weights[p.airline] += p.weight;
                }
                blame += parts(much[room][slot], weights)[airline];
            }
        }
        return blame;
    }

    private static int[] parts(int amount, int[] claims) {
        int whole = Arrays.stream(claims).sum();
        int[] parts = new int[4];
        if (whole == 0) return parts;
        List<Integer> order = new ArrayList<>();
        int left = amount;
        for (int a = 0; a < 4; a++) {
            parts[a] = amount * claims[a] / whole;
            left -= parts[a];
            order.add(a);
        }
        order.sort((a, b) -> amount * claims[b] % whole - amount * claims[a] % whole);
        for (int k = 0; k < left; k++) {
            parts[order.get(k)]++;
        }
        return parts;
    }

    int kind(int flight) {
        Plane p = plane(flight);
        if (p == null) return BAD;
        if (p.delay >= 1 && p.way != 0) return 2;
        if (p.delay >= 1) return 1;
        return isCrowded(p, loads()) ? 0 : 3;
    }

    int as(int flight, int kind) {
        if (plane(flight) == null || !in(kind, 0, 3)) return BAD;
        String[] alsoOfKinds = {"0", "01", "012", "03"};
        boolean is = alsoOfKinds[kind(flight)].contains(String.valueOf(kind));
        return is ? fine(plane(flight).weight) : finding(3);
    }

    int ask(int flight, int what) {
        if (plane(flight) == null || !in(what, 0, 1)) return BAD;
        trace.clear();
        int[][] begins = {{10, 11, 12, 13}, {20, 21, 21, 22}};
        return body(begins[what][kind(flight)], flight, begins);
    }

    private int body(int number, int flight, int[][] begins) {
        trace.add(number);
        Plane p = plane(flight);
        switch (number) {
            case 10: return rooms(p, p.way).size();
            case 11: return body(10, flight, begins) + p.cost();
            case 12: return body(11, flight, begins) * 2;
            case 13: return body(10, flight, begins) + body(begins[1][kind(flight)], flight, begins);
            case 20: return p.weight;
            case 21: return body(20, flight, begins) + 100;
            default: return body(20, flight, begins) + p.airline;
        }
    }

    int trace(int i) {
        return in(i, 0, Math.min(16, trace.size()) - 1) ? trace.get(i) : NONE;
    }

    int count(int what) {
        int[] kinds = new int[4];
        for (int i = 0; i < planes.size(); i++) {
            kinds[kind(i)]++;
        }
        switch (what) {
            case 0: return (int) Arrays.stream(sheets).filter(s -> s != null).count();
            case 1: return planes.size();
            case 2: return storms.size();
            case 3: return kinds[1] + kinds[2];
            case 4: return kinds[2];
            case 5: return kinds[3];
            case 6: return tape.length();
            case 7: return Integer.bitCount(worlds);
            default: return BAD;
        }
    }

    int status() {
        return status;
    }
}
