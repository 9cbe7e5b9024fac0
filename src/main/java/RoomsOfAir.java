import java.util.Arrays;

/**
 * Skies in rooms: what each room of the air can bear by slots of time, the flights through it, and
 * the plans, swaps, shares and blame that follow. Every row is made with the object and used again,
 * because all calls of a run share one bounded store: no call makes an object or an array.
 */
public final class RoomsOfAir {
    public static final int NONE = -1000000, BAD = -1000001, STATE = -1000002, FULL = -1000003;

    private static final int FINDINGS_BELOW = -1000010, FAULTS_BELOW = -1000100;
    private static final int MISSING_SHEET = 1, WRONG_PLACE = 2, WRONG_KIND = 3, WRONG_SIZE = 4, TWO_LANES = 5;

    private static final int SHEETS = 8, LANES = 3, MOST_ITEMS = 48;
    private static final int ROOMS = 8, SLOTS = 48, CELLS = ROOMS * SLOTS, WORLDS = 4, MOST_STORMS = 20;
    private static final int MOST_BORNE = 99, BORNE_AT_FIRST = 9, MOST_STAFF = 9;
    private static final int AIRLINES = 4, MOST_FLIGHTS = 12, MOST_WAYS = 3, MOST_LEGS = 5, MOST_LEG_SLOTS = 4;
    private static final int MOST_DELAY = 4, LATEST_START = 40, MOST_WEIGHT = 9, MOST_RATE = 99, COST_OF_WAY = 10;
    private static final int MOST_PATH = MOST_LEGS * MOST_LEG_SLOTS;
    private static final int MOST_TAPE = 500, MOST_FED = 8, MOST_SETTLED = 5, MOST_TRACE = 16;
    private static final int FLIGHT = 0, LATE = 1, ROUND = 2, CALM = 3, KINDS = 4;
    /** Above every cost and every harm that can come. */
    private static final int BEYOND = 100000000;

    private final Sheet[] sheets = new Sheet[SHEETS];
    private final Land land = new Land();
    private final Fleet fleet = new Fleet();
    private final Tokens tape = new Tokens();
    private final Reader reader = new Reader(tape, land, fleet);
    private final Sky sky = new Sky(land, fleet);
    private final Splitter splitter = new Splitter(land, sky);
    private final Settler settler = new Settler(fleet, sky);
    private final Ledger ledger = new Ledger(fleet, sky);
    private final Asks asks = new Asks(sky);
    private int latestFinding = 0;
    private int latestFault = 0;

    public RoomsOfAir() {
        for (int i = 0; i < SHEETS; i++) {
            sheets[i] = new Sheet();
        }
    }

    // ---- sheets

    public int sheet(int sheet, int lane, int n) {
        Sheet target = sheetOrNull(sheet);
        if (target == null || lane < 0 || lane >= LANES || n > MOST_ITEMS) {
            return BAD;
        }
        if (n < 0) {
            return found(WRONG_SIZE);
        }
        target.begin(lane, n);
        return withoutFinding(n);
    }

    public int set(int sheet, int i, int v) {
        Sheet target = sheetOrNull(sheet);
        if (target == null) {
            return BAD;
        }
        int finding = target.findingFor(i, 1);
        return finding != 0 ? found(finding) : withoutFinding(target.put(i, v));
    }

    public int copy(int a, int i, int b, int j, int n) {
        Sheet source = sheetOrNull(a);
        Sheet target = sheetOrNull(b);
        if (source == null || target == null) {
            return BAD;
        }
        if (source.isMissing() || target.isMissing()) {
            return found(MISSING_SHEET);
        }
        if (source.lane != target.lane) {
            return found(TWO_LANES);
        }
        if (!source.hasPlaces(i, n) || !target.hasPlaces(j, n)) {
            return found(WRONG_PLACE);
        }
        System.arraycopy(source.items, i, target.items, j, n);
        return withoutFinding(n);
    }

    public int drop(int sheet) {
        Sheet target = sheetOrNull(sheet);
        if (target == null) {
            return BAD;
        }
        return target.isMissing() ? found(MISSING_SHEET) : withoutFinding(target.end());
    }

    // ---- rooms, staff, worlds

    public int bears(int room, int slot, int sheet, int i, int n) {
        if (!isRoom(room) || !areSlots(slot, n)) {
            return BAD;
        }
        return fillFromSheet(land.borne, cellOf(room, slot), sheet, i, n, MOST_BORNE);
    }

    public int staff(int slot, int sheet, int i, int n) {
        if (!areSlots(slot, n)) {
            return BAD;
        }
        return fillFromSheet(land.crew, slot, sheet, i, n, MOST_STAFF);
    }

    public int look(int worlds) {
        if (worlds < 1 || worlds >= 1 << WORLDS) {
            return BAD;
        }
        int earlier = land.lookedAt;
        land.lookedAt = worlds;
        return earlier;
    }

    public int safe(int room, int slot, int world) {
        boolean isWorld = world >= 0 && world < WORLDS;
        if (!isRoom(room) || !isSlot(slot) || !isWorld && world != NONE) {
            return BAD;
        }
        return land.borneInWorlds(room, slot, isWorld ? 1 << world : land.lookedAt);
    }

    // ---- texts, flights

    public int feed(long w, int n) {
        if (n < 1 || n > MOST_FED) {
            return BAD;
        }
        return tape.takeBytes(w, n) ? tape.length : FULL;
    }

    public int read() {
        boolean isFaultless = reader.readTape();
        tape.length = 0;
        if (!isFaultless) {
            latestFault = reader.faultNumber;
            return FAULTS_BELOW - reader.faultPlace;
        }
        reader.carryOut();
        return fleet.size;
    }

    public int fault() {
        return latestFault;
    }

    public int told(int flight, int what) {
        Flight one = fleet.flightOrNull(flight);
        if (one == null) {
            return BAD;
        }
        switch (what) {
            case 0: return one.owner;
            case 1: return one.weight;
            case 2: return one.start;
            case 3: return one.rate;
            case 4: return one.wayCount;
            case 5: return one.way;
            case 6: return one.delay;
            case 7: return one.cost();
            default: return BAD;
        }
    }

    public int leg(int flight, int way, int i, int what) {
        Flight one = fleet.flightOrNull(flight);
        if (one == null || !one.hasWay(way) || what < 0 || what > 1) {
            return BAD;
        }
        if (i < 0 || i >= one.legCounts[way]) {
            return NONE;
        }
        int place = way * MOST_LEGS + i;
        return what == 0 ? one.legRooms[place] : one.legSlots[place];
    }

    public int choose(int flight, int way, int delay) {
        Flight one = fleet.flightOrNull(flight);
        if (one == null || !one.hasWay(way) || delay < 0 || delay > MOST_DELAY) {
            return BAD;
        }
        one.way = way;
        one.delay = delay;
        return one.cost();
    }

    public int at(int flight, int slot) {
        Flight one = fleet.flightOrNull(flight);
        if (one == null || !isSlot(slot)) {
            return BAD;
        }
        return one.roomIn(slot, one.way, one.delay);
    }

    // ---- loads

    public int load(int room, int slot, int what) {
        if (!isRoom(room) || !isSlot(slot) || what < 0 || what > 1) {
            return BAD;
        }
        sky.refresh();
        int cell = cellOf(room, slot);
        return what == 0 ? sky.loads[cell] : sky.tooMuchIn(cell);
    }

    public int all(int what) {
        sky.refresh();
        switch (what) {
            case 0: return sky.tooMuchTogether();
            case 1: return fleet.costTogether();
            case 2: return fleet.delaysTogether();
            case 3: return ledger.unfairness();
            case 4: return sky.crowdedCells();
            case 5: return sky.greatestLoad();
            default: return BAD;
        }
    }

    public int known(int room, int slot, int moment) {
        if (!isRoom(room) || !isSlot(slot) || moment < 0) {
            return BAD;
        }
        return fleet.loadKnownAt(room, slot, moment);
    }

    public int split(int slot) {
        if (slot != NONE && !isSlot(slot)) {
            return BAD;
        }
        sky.refresh();
        splitter.makePlan();
        return slot == NONE ? splitter.leastHarm : splitter.plan[slot];
    }

    public int settle(int flights) {
        boolean areThere = (flights & ~fleet.everyFlight()) == 0;
        if (flights == 0 || !areThere || Integer.bitCount(flights) > MOST_SETTLED) {
            return BAD;
        }
        sky.refresh();
        return settler.findChoices(flights) ? settler.takeChoices() : NONE;
    }

    public int harmless(int a, int b) {
        Flight one = fleet.flightOrNull(a);
        Flight other = fleet.flightOrNull(b);
        if (one == null || other == null || one.owner == other.owner) {
            return BAD;
        }
        return harmsNone(one, other) ? 1 : 0;
    }

    public int swap() {
        for (int a = 0; a < fleet.size; a++) {
            for (int b = a + 1; b < fleet.size; b++) {
                Flight one = fleet.flights[a];
                Flight other = fleet.flights[b];
                if (one.owner != other.owner && harmsNone(one, other)) {
                    exchangeDelays(one, other);
                    return 100 * a + b;
                }
            }
        }
        return NONE;
    }

    public int airline(int airline, int what) {
        if (airline < 0 || airline >= AIRLINES) {
            return BAD;
        }
        switch (what) {
            case 0: return fleet.flightsOf(airline);
            case 1: return fleet.delaysOf(airline);
            case 2: return ledger.shareOf(airline);
            case 3:
                sky.refresh();
                return ledger.blameOf(airline);
            case 4: return fleet.costOf(airline);
            default: return BAD;
        }
    }

    // ---- asked

    public int kind(int flight) {
        Flight one = fleet.flightOrNull(flight);
        if (one == null) {
            return BAD;
        }
        sky.refresh();
        return asks.kindOf(one);
    }

    public int as(int flight, int kind) {
        Flight one = fleet.flightOrNull(flight);
        if (one == null || kind < 0 || kind >= KINDS) {
            return BAD;
        }
        sky.refresh();
        return asks.isOfKind(one, kind) ? withoutFinding(one.weight) : found(WRONG_KIND);
    }

    public int ask(int flight, int what) {
        Flight one = fleet.flightOrNull(flight);
        if (one == null || what < 0 || what > 1) {
            return BAD;
        }
        sky.refresh();
        asks.traceLength = 0;
        return what == 0 ? asks.sizeOf(one) : asks.markOf(one);
    }

    public int trace(int i) {
        return i < 0 || i >= asks.traceLength ? NONE : asks.bodies[i];
    }

    public int count(int what) {
        switch (what) {
            case 0: return sheetsThere();
            case 1: return fleet.size;
            case 2: return land.stormCount;
            case 3: return flightsTold(LATE) + flightsTold(ROUND);
            case 4: return flightsTold(ROUND);
            case 5: return flightsTold(CALM);
            case 6: return tape.length;
            case 7: return Integer.bitCount(land.lookedAt);
            default: return BAD;
        }
    }

    public int status() {
        return latestFinding;
    }

    // ---- shared by the calls

    private static boolean isRoom(int room) {
        return room >= 0 && room < ROOMS;
    }

    private static boolean isSlot(int slot) {
        return slot >= 0 && slot < SLOTS;
    }

    private static boolean areSlots(int slot, int n) {
        return isSlot(slot) && n >= 1 && n <= SLOTS - slot;
    }

    private static int cellOf(int room, int slot) {
        return room * SLOTS + slot;
    }

    private Sheet sheetOrNull(int sheet) {
        return sheet >= 0 && sheet < SHEETS ? sheets[sheet] : null;
    }

    private int found(int finding) {
        latestFinding = finding;
        return FINDINGS_BELOW - finding;
    }

    private int withoutFinding(int answer) {
        latestFinding = 0;
        return answer;
    }

    private int fillFromSheet(int[] row, int place, int sheet, int i, int n, int most) {
        Sheet source = sheetOrNull(sheet);
        if (source == null) {
            return BAD;
        }
        int finding = source.findingFor(i, n);
        if (finding != 0) {
            return found(finding);
        }
        if (!source.hasOnlyUpTo(most, i, n)) {
            return BAD;
        }
        System.arraycopy(source.items, i, row, place, n);
        return withoutFinding(n);
    }

    private int sheetsThere() {
        int there = 0;
        for (int i = 0; i < SHEETS; i++) {
            if (!sheets[i].isMissing()) {
                there++;
            }
        }
        return there;
    }

    private int flightsTold(int kind) {
        sky.refresh();
        int many = 0;
        for (int i = 0; i < fleet.size; i++) {
            if (asks.kindOf(fleet.flights[i]) == kind) {
                many++;
            }
        }
        return many;
    }

    private boolean harmsNone(Flight one, Flight other) {
        int costOfOne = one.costOf(one.way, other.delay);
        int costOfOther = other.costOf(other.way, one.delay);
        boolean isDearer = costOfOne > one.cost() || costOfOther > other.cost();
        boolean isCheaper = costOfOne < one.cost() || costOfOther < other.cost();
        if (isDearer || !isCheaper) {
            return false;
        }
        sky.refresh();
        int before = sky.tooMuchTogether();
        exchangeDelays(one, other);
        sky.refresh();
        int after = sky.tooMuchTogether();
        exchangeDelays(one, other);
        return after <= before;
    }

    private static void exchangeDelays(Flight one, Flight other) {
        int delay = one.delay;
        one.delay = other.delay;
        other.delay = delay;
    }

    private static final class Sheet {
        private static final int NO_LANE = -1;
        int lane = NO_LANE;
        int size = 0;
        final int[] items = new int[MOST_ITEMS];

        boolean isMissing() {
            return lane == NO_LANE;
        }

        void begin(int newLane, int newSize) {
            lane = newLane;
            size = newSize;
            Arrays.fill(items, 0);
        }

        int end() {
            lane = NO_LANE;
            return size;
        }

        boolean hasPlaces(int i, int n) {
            return i >= 0 && n >= 0 && n <= size && i <= size - n;
        }

        int findingFor(int i, int n) {
            if (isMissing()) {
                return MISSING_SHEET;
            }
            return hasPlaces(i, n) ? 0 : WRONG_PLACE;
        }

        boolean hasOnlyUpTo(int most, int i, int n) {
            for (int k = i; k < i + n; k++) {
                if (items[k] < 0 || items[k] > most) {
                    return false;
                }
            }
            return true;
        }

        int put(int i, int v) {
            items[i] = lane == 0 ? (byte) v : lane == 1 ? (short) v : v;
            return items[i];
        }
    }

    /** What the rooms bear, who watches them, and the storms that may come. */
    private static final class Land {
        final int[] borne = new int[CELLS];
        final int[] crew = new int[SLOTS];
        final int[] stormWorlds = new int[MOST_STORMS];
        final int[] stormRooms = new int[MOST_STORMS];
        final int[] stormFroms = new int[MOST_STORMS];
        final int[] stormTos = new int[MOST_STORMS];
        final int[] stormBorne = new int[MOST_STORMS];
        int stormCount = 0;
        int lookedAt = 1;

        Land() {
            Arrays.fill(borne, BORNE_AT_FIRST);
        }

        boolean stormsIn(int storm, int worlds) {
            return (worlds >> stormWorlds[storm] & 1) == 1;
        }

        int borneInWorlds(int room, int slot, int worlds) {
            int least = borne[cellOf(room, slot)];
            for (int i = 0; i < stormCount; i++) {
                boolean isThere = stormRooms[i] == room && stormFroms[i] <= slot && slot < stormTos[i];
                if (isThere && stormsIn(i, worlds)) {
                    least = Math.min(least, stormBorne[i]);
                }
            }
            return least;
        }

        void fillSafe(int[] safes) {
            System.arraycopy(borne, 0, safes, 0, CELLS);
            for (int i = 0; i < stormCount; i++) {
                if (stormsIn(i, lookedAt)) {
                    lowerByStorm(safes, i);
                }
            }
        }

        private void lowerByStorm(int[] safes, int storm) {
            for (int slot = stormFroms[storm]; slot < stormTos[storm]; slot++) {
                int cell = cellOf(stormRooms[storm], slot);
                safes[cell] = Math.min(safes[cell], stormBorne[storm]);
            }
        }

        void bearInAllSlots(int room, int much) {
            for (int slot = 0; slot < SLOTS; slot++) {
                borne[cellOf(room, slot)] = much;
            }
        }
    }

    private static final class Flight {
        int owner = 0;
        int weight = 1;
        int start = 0;
        int rate = 0;
        int wayCount = 0;
        final int[] legCounts = new int[MOST_WAYS];
        final int[] legRooms = new int[MOST_WAYS * MOST_LEGS];
        final int[] legSlots = new int[MOST_WAYS * MOST_LEGS];
        int way = 0;
        int delay = 0;

        void begin() {
            wayCount = 0;
            way = 0;
            delay = 0;
        }

        void addWay() {
            if (wayCount < MOST_WAYS) {
                legCounts[wayCount] = 0;
                wayCount++;
            }
        }

        void addLegToLastWay(int room, int slots) {
            int last = wayCount - 1;
            if (last < 0 || legCounts[last] >= MOST_LEGS) {
                return;
            }
            int place = last * MOST_LEGS + legCounts[last];
            legRooms[place] = room;
            legSlots[place] = slots;
            legCounts[last]++;
        }

        boolean hasWay(int number) {
            return number >= 0 && number < wayCount;
        }

        int costOf(int byWay, int withDelay) {
            return rate * withDelay + COST_OF_WAY * byWay;
        }

        int cost() {
            return costOf(way, delay);
        }

        int slotsOfWay() {
            int slots = 0;
            for (int i = 0; i < legCounts[way]; i++) {
                slots += legSlots[way * MOST_LEGS + i];
            }
            return slots;
        }

        int roomIn(int slot, int byWay, int withDelay) {
            int since = slot - start - withDelay;
            if (since < 0) {
                return NONE;
            }
            for (int i = 0; i < legCounts[byWay]; i++) {
                int place = byWay * MOST_LEGS + i;
                if (since < legSlots[place]) {
                    return legRooms[place];
                }
                since -= legSlots[place];
            }
            return NONE;
        }

        /** Writes the cells that the flight passes to the path, and tells how many they are. */
        int walk(int byWay, int withDelay, int[] path) {
            int steps = 0;
            int slot = start + withDelay;
            for (int i = 0; i < legCounts[byWay]; i++) {
                int place = byWay * MOST_LEGS + i;
                for (int k = 0; k < legSlots[place]; k++) {
                    if (slot < SLOTS && steps < path.length) {
                        path[steps] = legRooms[place] * SLOTS + slot;
                        steps++;
                    }
                    slot++;
                }
            }
            return steps;
        }
    }

    private static final class Fleet {
        final Flight[] flights = new Flight[MOST_FLIGHTS];
        int size = 0;

        Fleet() {
            for (int i = 0; i < MOST_FLIGHTS; i++) {
                flights[i] = new Flight();
            }
        }

        Flight flightOrNull(int i) {
            return i >= 0 && i < size ? flights[i] : null;
        }

        int everyFlight() {
            return (1 << size) - 1;
        }

        int loadKnownAt(int room, int slot, int moment) {
            int weights = 0;
            for (int i = 0; i < size && i <= moment; i++) {
                if (flights[i].roomIn(slot, 0, 0) == room) {
                    weights += flights[i].weight;
                }
            }
            return weights;
        }

        int costTogether() {
            int sum = 0;
            for (int i = 0; i < size; i++) {
                sum += flights[i].cost();
            }
            return sum;
        }

        int delaysTogether() {
            int sum = 0;
            for (int i = 0; i < size; i++) {
                sum += flights[i].delay;
            }
            return sum;
        }

        int flightsOf(int owner) {
            int many = 0;
            for (int i = 0; i < size; i++) {
                many += flights[i].owner == owner ? 1 : 0;
            }
            return many;
        }

        int delaysOf(int owner) {
            int sum = 0;
            for (int i = 0; i < size; i++) {
                sum += flights[i].owner == owner ? flights[i].delay : 0;
            }
            return sum;
        }

        int costOf(int owner) {
            int sum = 0;
            for (int i = 0; i < size; i++) {
                sum += flights[i].owner == owner ? flights[i].cost() : 0;
            }
            return sum;
        }
    }

    /** The tape, and its tokens one behind the other. */
    private static final class Tokens {
        static final int END = 0, NAME = 1, NUMBER = 2, COMMA = 3, SEMICOLON = 4, BLANK = 5, NO_TOKEN = 6;
        private static final int MOST_LETTERS = 6, MOST_FIGURES = 3;

        final int[] bytes = new int[MOST_TAPE];
        int length = 0;
        int next = 0;
        int type = END;
        int first = 0;
        /** A number's value, or a name's letters as bytes: six of them fit, so names compare as numbers. */
        long value = 0;

        boolean takeBytes(long w, int n) {
            if (n > MOST_TAPE - length) {
                return false;
            }
            for (int i = n - 1; i >= 0; i--) {
                bytes[length] = (int) (w >> 8 * i & 255);
                length++;
            }
            return true;
        }

        void rewind() {
            next = 0;
            advance();
        }

        void advance() {
            while (next < length && typeOf(bytes[next]) == BLANK) {
                next++;
            }
            first = next;
            value = 0;
            type = next < length ? typeOf(bytes[next]) : END;
            boolean isRun = type == NAME || type == NUMBER;
            while (isRun && next < length && typeOf(bytes[next]) == type) {
                value = type == NAME ? value << 8 | bytes[next] : value * 10 + bytes[next] - '0';
                next++;
            }
            if (isRun && next - first > (type == NAME ? MOST_LETTERS : MOST_FIGURES)) {
                type = NO_TOKEN;
            } else if (!isRun && type != END) {
                next++;
            }
        }

        boolean isName(long letters) {
            return type == NAME && value == letters;
        }

        private static int typeOf(int b) {
            if (b >= 'a' && b <= 'z') {
                return NAME;
            }
            if (b >= '0' && b <= '9') {
                return NUMBER;
            }
            if (b == 32 || b == 10) {
                return BLANK;
            }
            return b == ',' ? COMMA : b == ';' ? SEMICOLON : NO_TOKEN;
        }
    }

    /**
     * Reads the whole tape before anything is done: flights and storms are written behind those that
     * are there, where nothing sees them, and count only once no fault was met.
     */
    private static final class Reader {
        private static final long FLIGHT_WORD = 0x666c69676874L, WAY_WORD = 0x776179L;
        private static final long BEAR_WORD = 0x62656172L, STORM_WORD = 0x73746f726dL;
        private static final int CANNOT_STAND = 1, NOT_AS_TOLD = 2, TOO_LONG = 3, NO_ROOM = 4;
        private static final int NOT_TOLD = -1;

        final Tokens tokens;
        final Land land;
        final Fleet fleet;
        final int[] toldBorne = new int[ROOMS];
        int flightsRead = 0;
        int stormsRead = 0;
        int faultNumber = 0;
        int faultPlace = 0;

        Reader(Tokens tokens, Land land, Fleet fleet) {
            this.tokens = tokens;
            this.land = land;
            this.fleet = fleet;
        }

        boolean readTape() {
            faultNumber = 0;
            flightsRead = fleet.size;
            stormsRead = land.stormCount;
            Arrays.fill(toldBorne, NOT_TOLD);
            tokens.rewind();
            for (int i = 0; i < MOST_TAPE && faultNumber == 0 && tokens.type != Tokens.END; i++) {
                if (tokens.isName(FLIGHT_WORD)) {
                    readFlight();
                } else if (tokens.isName(BEAR_WORD)) {
                    readBear();
                } else if (tokens.isName(STORM_WORD)) {
                    readStorm();
                } else {
                    stopAt(CANNOT_STAND);
                }
            }
            return faultNumber == 0;
        }

        void carryOut() {
            fleet.size = flightsRead;
            land.stormCount = stormsRead;
            for (int room = 0; room < ROOMS; room++) {
                if (toldBorne[room] != NOT_TOLD) {
                    land.bearInAllSlots(room, toldBorne[room]);
                }
            }
        }

        private void readFlight() {
            if (flightsRead >= MOST_FLIGHTS) {
                stopAt(NO_ROOM);
                return;
            }
            Flight flight = fleet.flights[flightsRead];
            flight.begin();
            tokens.advance();
            flight.owner = readNumber(0, AIRLINES - 1);
            flight.weight = readNumber(1, MOST_WEIGHT);
            flight.start = readNumber(0, LATEST_START);
            flight.rate = readNumber(0, MOST_RATE);
            readWays(flight);
            readSemicolon();
            flightsRead++;
        }

        private void readWays(Flight flight) {
            if (!tokens.isName(WAY_WORD)) {
                stopAt(CANNOT_STAND);
            }
            boolean goesOn = faultNumber == 0;
            for (int i = 0; i < MOST_WAYS && goesOn; i++) {
                flight.addWay();
                readLegs(flight);
                goesOn = faultNumber == 0 && tokens.isName(WAY_WORD);
            }
            if (goesOn) {
                stopAt(TOO_LONG);
            }
        }

        private void readLegs(Flight flight) {
            boolean goesOn = true;
            for (int i = 0; i < MOST_LEGS && goesOn; i++) {
                tokens.advance();
                int room = readNumber(0, ROOMS - 1);
                int slots = readNumber(1, MOST_LEG_SLOTS);
                flight.addLegToLastWay(room, slots);
                goesOn = faultNumber == 0 && tokens.type == Tokens.COMMA;
            }
            if (goesOn) {
                stopAt(TOO_LONG);
            }
        }

        private void readBear() {
            tokens.advance();
            int room = readNumber(0, ROOMS - 1);
            int much = readNumber(0, MOST_BORNE);
            readSemicolon();
            toldBorne[room] = much;
        }

        private void readStorm() {
            if (stormsRead >= MOST_STORMS) {
                stopAt(NO_ROOM);
                return;
            }
            tokens.advance();
            land.stormWorlds[stormsRead] = readNumber(1, WORLDS - 1);
            land.stormRooms[stormsRead] = readNumber(0, ROOMS - 1);
            int from = readNumber(0, SLOTS - 1);
            land.stormFroms[stormsRead] = from;
            land.stormTos[stormsRead] = readNumber(from + 1, SLOTS);
            land.stormBorne[stormsRead] = readNumber(0, MOST_BORNE);
            readSemicolon();
            stormsRead++;
        }

        /** Behind a fault it answers the least, so that what follows has a number that can stand. */
        private int readNumber(int least, int most) {
            if (tokens.type != Tokens.NUMBER) {
                stopAt(CANNOT_STAND);
            } else if (tokens.value < least || tokens.value > most) {
                stopAt(NOT_AS_TOLD);
            }
            if (faultNumber != 0) {
                return least;
            }
            int number = (int) tokens.value;
            tokens.advance();
            return number;
        }

        private void readSemicolon() {
            if (tokens.type != Tokens.SEMICOLON) {
                stopAt(CANNOT_STAND);
            }
            if (faultNumber == 0) {
                tokens.advance();
            }
        }

        /** Only the first fault stands; the tokens go no further behind it. */
        private void stopAt(int fault) {
            if (faultNumber == 0) {
                faultNumber = fault;
                faultPlace = tokens.first;
            }
        }
    }

    /** Loads and what is safe, cell by cell, as they were at the latest refresh. */
    private static final class Sky {
        final Land land;
        final Fleet fleet;
        final int[] loads = new int[CELLS];
        final int[] safes = new int[CELLS];
        final int[] path = new int[MOST_PATH];

        Sky(Land land, Fleet fleet) {
            this.land = land;
            this.fleet = fleet;
        }

        void refresh() {
            land.fillSafe(safes);
            Arrays.fill(loads, 0);
            for (int i = 0; i < fleet.size; i++) {
                Flight flight = fleet.flights[i];
                int steps = flight.walk(flight.way, flight.delay, path);
                for (int k = 0; k < steps; k++) {
                    loads[path[k]] += flight.weight;
                }
            }
        }

        int tooMuchIn(int cell) {
            return Math.max(0, loads[cell] - safes[cell]);
        }

        int tooMuchTogether() {
            int sum = 0;
            for (int cell = 0; cell < CELLS; cell++) {
                sum += tooMuchIn(cell);
            }
            return sum;
        }

        int crowdedCells() {
            int many = 0;
            for (int cell = 0; cell < CELLS; cell++) {
                many += tooMuchIn(cell) > 0 ? 1 : 0;
            }
            return many;
        }

        int greatestLoad() {
            int greatest = 0;
            for (int cell = 0; cell < CELLS; cell++) {
                greatest = Math.max(greatest, loads[cell]);
            }
            return greatest;
        }

        boolean isCrowdedAround(Flight flight) {
            int steps = flight.walk(flight.way, flight.delay, path);
            for (int k = 0; k < steps; k++) {
                if (loads[path[k]] > safes[path[k]]) {
                    return true;
                }
            }
            return false;
        }
    }

    /** The plan of splits of least harm, found from the last slot to the first. */
    private static final class Splitter {
        private static final int SPLITTABLE = 6, SETS = 1 << SPLITTABLE, HARM_OF_TOO_MUCH = 10;

        final Land land;
        final Sky sky;
        /** By slot and set: the least harm from that slot on, but for the change into that set. */
        final int[] harms = new int[SLOTS * SETS];
        final int[] harmsBehind = new int[SETS];
        final int[] relieved = new int[SETS];
        final int[] plan = new int[SLOTS];
        int leastHarm = 0;

        Splitter(Land land, Sky sky) {
            this.land = land;
            this.sky = sky;
        }

        void makePlan() {
            Arrays.fill(harmsBehind, 0);
            for (int slot = SLOTS - 1; slot >= 0; slot--) {
                weighSlot(slot);
                System.arraycopy(harms, slot * SETS, harmsBehind, 0, SETS);
                addChangesAhead();
            }
            leastHarm = harmsBehind[0];
            int set = 0;
            for (int slot = 0; slot < SLOTS; slot++) {
                set = bestSetBehind(set, slot);
                plan[slot] = set;
            }
        }

        private void weighSlot(int slot) {
            int unsplit = 0;
            for (int room = 0; room < ROOMS; room++) {
                unsplit += sky.tooMuchIn(cellOf(room, slot));
            }
            fillRelieved(slot);
            for (int set = 0; set < SETS; set++) {
                boolean isStaffed = Integer.bitCount(set) <= land.crew[slot];
                int harm = HARM_OF_TOO_MUCH * (unsplit - relieved[set]) + harmsBehind[set];
                harms[slot * SETS + set] = isStaffed ? harm : BEYOND;
            }
        }

        private void fillRelieved(int slot) {
            relieved[0] = 0;
            for (int room = 0; room < SPLITTABLE; room++) {
                int relief = reliefBySplit(cellOf(room, slot));
                int withRoom = 1 << room;
                for (int set = 0; set < withRoom; set++) {
                    relieved[withRoom + set] = relieved[set] + relief;
                }
            }
        }

        private int reliefBySplit(int cell) {
            int halfAgain = sky.safes[cell] / 2;
            return Math.min(sky.tooMuchIn(cell), halfAgain);
        }

        /** Room by room each set may come from the one without, or with, that room: together, from any set. */
        private void addChangesAhead() {
            for (int room = 0; room < SPLITTABLE; room++) {
                int bit = 1 << room;
                for (int set = 0; set < SETS; set++) {
                    if ((set & bit) == 0) {
                        int without = harmsBehind[set];
                        int with = harmsBehind[set + bit];
                        harmsBehind[set] = Math.min(without, with + 1);
                        harmsBehind[set + bit] = Math.min(with, without + 1);
                    }
                }
            }
        }

        private int bestSetBehind(int ahead, int slot) {
            int best = 0;
            int least = BEYOND;
            for (int set = 0; set < SETS; set++) {
                int harm = harms[slot * SETS + set] + Integer.bitCount(set ^ ahead);
                if (harm < least) {
                    least = harm;
                    best = set;
                }
            }
            return best;
        }
    }

    /**
     * Searches all choices of a few flights. They are tried in the order in which the document prefers
     * them among equals, so only a cheaper find takes the place of an earlier one.
     */
    private static final class Settler {
        private static final int DELAYS = MOST_DELAY + 1;

        final Fleet fleet;
        final Sky sky;
        final int[] freeRoom = new int[CELLS];
        final int[] path = new int[MOST_PATH];
        final int[] members = new int[MOST_SETTLED];
        final int[] tried = new int[MOST_SETTLED];
        final int[] kept = new int[MOST_SETTLED];
        int memberCount = 0;
        int leastCost = BEYOND;

        Settler(Fleet fleet, Sky sky) {
            this.fleet = fleet;
            this.sky = sky;
        }

        boolean findChoices(int flights) {
            for (int cell = 0; cell < CELLS; cell++) {
                freeRoom[cell] = sky.safes[cell] - sky.loads[cell];
            }
            memberCount = 0;
            for (int i = 0; i < fleet.size && memberCount < MOST_SETTLED; i++) {
                if ((flights >> i & 1) == 1) {
                    Flight flight = fleet.flights[i];
                    changeFreeRoom(flight, flight.way, flight.delay, flight.weight);
                    members[memberCount] = i;
                    memberCount++;
                }
            }
            leastCost = BEYOND;
            search(0, 0);
            return leastCost < BEYOND;
        }

        int takeChoices() {
            for (int i = 0; i < memberCount; i++) {
                Flight flight = fleet.flights[members[i]];
                flight.way = kept[i] / DELAYS;
                flight.delay = kept[i] % DELAYS;
            }
            return leastCost;
        }

        private void search(int depth, int cost) {
            if (depth >= memberCount) {
                leastCost = cost;
                System.arraycopy(tried, 0, kept, 0, memberCount);
                return;
            }
            if (cost + leastCostFrom(depth) >= leastCost) {
                return;
            }
            Flight flight = fleet.flights[members[depth]];
            for (int choice = 0; choice < flight.wayCount * DELAYS; choice++) {
                int way = choice / DELAYS;
                int delay = choice % DELAYS;
                int together = cost + flight.costOf(way, delay);
                if (together < leastCost && fits(flight, way, delay)) {
                    tried[depth] = choice;
                    changeFreeRoom(flight, way, delay, -flight.weight);
                    search(depth + 1, together);
                    changeFreeRoom(flight, way, delay, flight.weight);
                }
            }
        }

        /** Free room only shrinks with each flight placed, so the rest can never cost less than this. */
        private int leastCostFrom(int depth) {
            int sum = 0;
            for (int i = depth; i < memberCount && sum < BEYOND; i++) {
                sum += leastCostAlone(fleet.flights[members[i]]);
            }
            return sum;
        }

        private int leastCostAlone(Flight flight) {
            int least = BEYOND;
            for (int way = 0; way < flight.wayCount; way++) {
                for (int delay = 0; delay < DELAYS; delay++) {
                    int cost = flight.costOf(way, delay);
                    if (cost < least && fits(flight, way, delay)) {
                        least = cost;
                    }
                }
            }
            return least;
        }

        private boolean fits(Flight flight, int way, int delay) {
            int steps = flight.walk(way, delay, path);
            for (int k = 0; k < steps; k++) {
                if (freeRoom[path[k]] < flight.weight) {
                    return false;
                }
            }
            return true;
        }

        private void changeFreeRoom(Flight flight, int way, int delay, int change) {
            int steps = flight.walk(way, delay, path);
            for (int k = 0; k < steps; k++) {
                freeRoom[path[k]] += change;
            }
        }
    }

    /** What falls to each airline: delays by law, and blame. */
    private static final class Ledger {
        private static final int SERVED = -1;

        final Fleet fleet;
        final Sky sky;
        final int[] claims = new int[AIRLINES];
        final int[] parts = new int[AIRLINES];
        final int[] rests = new int[AIRLINES];

        Ledger(Fleet fleet, Sky sky) {
            this.fleet = fleet;
            this.sky = sky;
        }

        int shareOf(int owner) {
            divideDelays();
            return parts[owner];
        }

        int unfairness() {
            divideDelays();
            int sum = 0;
            for (int owner = 0; owner < AIRLINES; owner++) {
                sum += Math.abs(fleet.delaysOf(owner) - parts[owner]);
            }
            return sum;
        }

        int blameOf(int owner) {
            int sum = 0;
            for (int room = 0; room < ROOMS; room++) {
                for (int slot = 0; slot < SLOTS; slot++) {
                    if (sky.tooMuchIn(cellOf(room, slot)) > 0) {
                        divideTooMuch(room, slot);
                        sum += parts[owner];
                    }
                }
            }
            return sum;
        }

        private void divideDelays() {
            for (int owner = 0; owner < AIRLINES; owner++) {
                claims[owner] = fleet.flightsOf(owner);
            }
            divide(fleet.delaysTogether(), fleet.size);
        }

        private void divideTooMuch(int room, int slot) {
            Arrays.fill(claims, 0);
            for (int i = 0; i < fleet.size; i++) {
                Flight flight = fleet.flights[i];
                if (flight.roomIn(slot, flight.way, flight.delay) == room) {
                    claims[flight.owner] += flight.weight;
                }
            }
            int cell = cellOf(room, slot);
            divide(sky.tooMuchIn(cell), sky.loads[cell]);
        }

        private void divide(int amount, int claimsTogether) {
            Arrays.fill(parts, 0);
            if (claimsTogether <= 0) {
                return;
            }
            int left = amount;
            for (int owner = 0; owner < AIRLINES; owner++) {
                parts[owner] = amount * claims[owner] / claimsTogether;
                rests[owner] = amount * claims[owner] % claimsTogether;
                left -= parts[owner];
            }
            for (int i = 0; i < left && i < AIRLINES; i++) {
                int owner = ownerOfGreatestRest();
                parts[owner]++;
                rests[owner] = SERVED;
            }
        }

        private int ownerOfGreatestRest() {
            int greatest = 0;
            for (int owner = 1; owner < AIRLINES; owner++) {
                if (rests[owner] > rests[greatest]) {
                    greatest = owner;
                }
            }
            return greatest;
        }
    }

    /** Kinds of flights and what is asked of them; kinds are told by the sky's latest refresh. */
    private static final class Asks {
        final Sky sky;
        final int[] bodies = new int[MOST_TRACE];
        int traceLength = 0;

        Asks(Sky sky) {
            this.sky = sky;
        }

        int kindOf(Flight flight) {
            if (flight.delay > 0) {
                return flight.way != 0 ? ROUND : LATE;
            }
            return sky.isCrowdedAround(flight) ? FLIGHT : CALM;
        }

        boolean isOfKind(Flight flight, int kind) {
            int toldKind = kindOf(flight);
            return kind == FLIGHT || kind == toldKind || kind == LATE && toldKind == ROUND;
        }

        int sizeOf(Flight flight) {
            switch (kindOf(flight)) {
                case LATE: return sizeOfLate(flight);
                case ROUND: return sizeOfRound(flight);
                case CALM: return sizeOfCalm(flight);
                default: return sizeLent(flight);
            }
        }

        int markOf(Flight flight) {
            switch (kindOf(flight)) {
                case LATE:
                case ROUND: return markOfLate(flight);
                case CALM: return markOfCalm(flight);
                default: return markLent(flight);
            }
        }

        private int sizeLent(Flight flight) {
            leaveInTrace(10);
            return flight.slotsOfWay();
        }

        private int sizeOfLate(Flight flight) {
            leaveInTrace(11);
            return sizeLent(flight) + flight.cost();
        }

        private int sizeOfRound(Flight flight) {
            leaveInTrace(12);
            return 2 * sizeOfLate(flight);
        }

        private int sizeOfCalm(Flight flight) {
            leaveInTrace(13);
            return sizeLent(flight) + markOf(flight);
        }

        private int markLent(Flight flight) {
            leaveInTrace(20);
            return flight.weight;
        }

        private int markOfLate(Flight flight) {
            leaveInTrace(21);
            return markLent(flight) + 100;
        }

        private int markOfCalm(Flight flight) {
            leaveInTrace(22);
            return markLent(flight) + flight.owner;
        }

        private void leaveInTrace(int body) {
            if (traceLength < MOST_TRACE) {
                bodies[traceLength] = body;
                traceLength++;
            }
        }
    }
}
