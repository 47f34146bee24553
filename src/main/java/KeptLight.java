import java.util.Arrays;

/** Keepers of a light: its watches, its lamp, its ships and its log, as ../shared/DOC.md promises them. */
public final class KeptLight {
    public static final int NONE = -1;

    private static final int BAD = -102;
    private static final int OTHER = -103;
    private static final int NOTHING = -104;
    private static final int STUCK = -105;
    private static final int FULL = -106;
    private static final int REFUSAL_SORTS = 5;
    private static final int NOT_REFUSED = 0;
    private static final int DONE = 1;

    private static final int CLEAR = 0;
    private static final int FOG = 1;
    private static final int STORM = 2;

    private static final int HEAD = 0;
    private static final int BOY = 2;

    private static final int SHIP = 0;
    private static final int SMALL = 1;
    private static final int GREAT = 2;
    private static final int FISHER = 3;
    private static final int PILOT = 4;
    private static final int COASTER = 5;
    private static final int LINER = 6;
    private static final int MAIL = 7;

    private static final int SAFE = 0;
    private static final int MISS = 1;
    private static final int WRECK = 2;

    private static final int WROTE_LIT = 1;
    private static final int WROTE_DARK = 2;
    private static final int WROTE_SOUNDED = 3;
    private static final int WROTE_SAFE = 4;
    private static final int WROTE_WRECK = 6;

    private static final int DAY_HOURS = 24;
    private static final int MOST_SHIPS = 200;
    private static final int MOST_STORED = 9999;
    private static final int MOST_HOURS_AT_ONCE = 200;
    private static final int MOST_HOURS_FOR_BOAT = 400;
    private static final int MOST_DAYS = 60;
    private static final int MOST_HOURS_AHEAD = 999;
    private static final int MOST_TOLD_TWOS = 20;
    private static final int SHELF_COUNT = 8;
    private static final int FAULT_BASE = -300;

    private final World now = new World();
    private final World kept = new World();
    private final Thought thought = new Thought();
    private final Tape tape = new Tape();
    private final Sky draft = new Sky();
    private final Shelf[] shelves = new Shelf[SHELF_COUNT];
    private final int[] refusals = new int[REFUSAL_SORTS];
    private boolean hasImage = false;

    public KeptLight() {
        for (int s = 0; s < shelves.length; s++) {
            shelves[s] = new Shelf();
        }
    }

    // ---- shelves

    public int row(int s, int sort, int n) {
        Shelf shelf = shelfAt(s);
        if (shelf == null || !isWithin(sort, Shelf.BYTES, Shelf.BOOLEANS) || !isWithin(n, 0, Shelf.MOST_ELEMENTS)) {
            return refuse(BAD);
        }
        shelf.takeRow(sort, n);
        return DONE;
    }

    public int set(int s, int i, long v) {
        int against = againstRowIn(s);
        if (against != NOT_REFUSED) {
            return refuse(against);
        }
        Shelf shelf = shelfAt(s);
        if (shelf == null || !shelf.hasElement(i)) {
            return refuse(BAD);
        }
        shelf.put(i, v);
        return DONE;
    }

    public int copy(int p, int q, int i, int j, int n) {
        Shelf from = shelfAt(p);
        Shelf to = shelfAt(q);
        if (from == null || to == null) {
            return refuse(BAD);
        }
        boolean bothHold = !from.isEmpty() && !to.isEmpty();
        if (from.isShip() || to.isShip() || (bothHold && !from.isOfSameSort(to))) {
            return refuse(OTHER);
        }
        if (!bothHold) {
            return refuse(NOTHING);
        }
        if (!from.hasElements(i, n) || !to.hasElements(j, n)) {
            return refuse(BAD);
        }
        to.takeElements(j, from, i, n);
        return n;
    }

    public long element(int s, int i) {
        Shelf shelf = shelfAt(s);
        return shelf == null ? 0 : shelf.valueAt(i);
    }

    public int holds(int s) {
        Shelf shelf = shelfAt(s);
        return shelf == null ? NONE : shelf.content();
    }

    public int show(int s, int ship) {
        Shelf shelf = shelfAt(s);
        if (shelf == null || (ship != NONE && !now.fleet.has(ship))) {
            return refuse(BAD);
        }
        if (ship == NONE) {
            shelf.takeNothing();
        } else {
            shelf.takeShip(ship);
        }
        return DONE;
    }

    public int says(int s, int kind) {
        Shelf shelf = shelfAt(s);
        if (shelf == null || !isKind(kind)) {
            return refuse(BAD);
        }
        if (shelf.isEmpty()) {
            return refuse(NOTHING);
        }
        int ship = shelf.shipNumber();
        if (!now.fleet.has(ship) || !isUnder(now.fleet.kindOf(ship), kind)) {
            return refuse(OTHER);
        }
        return saidAs(kind, ship);
    }

    private int saidAs(int kind, int ship) {
        Fleet fleet = now.fleet;
        switch (kind) {
            case SHIP:
                return fleet.hourOf(ship);
            case SMALL:
                return lacks(fleet.kindOf(ship), false, false, STORM, false);
            case GREAT:
                return lacks(fleet.kindOf(ship), true, false, FOG, false);
            case LINER:
                return fleet.metOf(ship);
            case MAIL:
                return fleet.fateOf(ship) == WRECK ? 1 : 0;
            default:
                return fleet.fateOf(ship);
        }
    }

    // ---- the sky

    public int feed(int letter) {
        if (!isWithin(letter, 0, 255)) {
            return refuse(BAD);
        }
        if (tape.isFull()) {
            return refuse(FULL);
        }
        tape.append(letter);
        return tape.size;
    }

    public int wipe() {
        int before = tape.size;
        tape.size = 0;
        return before;
    }

    public int sky() {
        int fault = tape.readInto(draft);
        tape.size = 0;
        if (fault != NONE) {
            refuse(BAD);
            return FAULT_BASE - fault;
        }
        now.station.sky.become(draft);
        return draft.runs;
    }

    public int weather(int hour) {
        return hour < 0 ? refuse(BAD) : now.station.sky.weatherAt(hour);
    }

    public int dark(int hour) {
        if (hour < 0) {
            return refuse(BAD);
        }
        return now.station.isDarkAt(hour) ? 1 : 0;
    }

    // ---- the keepers and what is told

    public int keeper(int rank) {
        if (!isWithin(rank, HEAD, BOY)) {
            return refuse(BAD);
        }
        if (now.station.crew.isFull()) {
            return refuse(FULL);
        }
        return now.station.crew.hire(rank);
    }

    public int plan(int hour, int keeper) {
        if (!isHourOfDay(hour) || !isKeeperOrNone(keeper)) {
            return refuse(BAD);
        }
        int before = now.station.planned(hour);
        now.station.assign(hour, keeper);
        return before;
    }

    public int plans(int s) {
        int against = againstPlanIn(s);
        if (against != NOT_REFUSED) {
            return refuse(against);
        }
        assignAll(now.station, shelfAt(s));
        return DONE;
    }

    public int tell(int what, int v) {
        if (!mayBeTold(what, v)) {
            return refuse(BAD);
        }
        Station station = now.station;
        int before;
        switch (what) {
            case 0:
                before = station.dawn;
                station.dawn = v;
                break;
            case 1:
                before = station.dusk;
                station.dusk = v;
                break;
            case 2:
                before = station.wick;
                station.wick = v;
                break;
            case 3:
                before = station.oil;
                station.oil = v;
                break;
            default:
                before = station.coal;
                station.coal = v;
                break;
        }
        return before;
    }

    private static boolean mayBeTold(int what, int v) {
        switch (what) {
            case 0:
                return isWithin(v, 0, 12);
            case 1:
                return isWithin(v, 13, 24);
            case 2:
                return isWithin(v, 1, 4);
            case 3:
            case 4:
                return isWithin(v, 0, MOST_STORED);
            default:
                return false;
        }
    }

    public int boat(int what, int v) {
        if (!mayBeOfBoat(what, v)) {
            return refuse(BAD);
        }
        Boat boat = now.station.boat;
        int before;
        switch (what) {
            case 0:
                before = boat.due;
                boat.due = v;
                break;
            case 1:
                before = boat.every;
                boat.every = v;
                break;
            case 2:
                before = boat.oil;
                boat.oil = v;
                break;
            default:
                before = boat.coal;
                boat.coal = v;
                break;
        }
        return before;
    }

    private boolean mayBeOfBoat(int what, int v) {
        int hour = now.station.hour;
        switch (what) {
            case 0:
                return v == NONE || isWithin(v, hour, hour + 9999);
            case 1:
                return isWithin(v, 1, 999);
            case 2:
            case 3:
                return isWithin(v, 0, MOST_STORED);
            default:
                return false;
        }
    }

    public int keeperOf(int keeper, int what) {
        Crew crew = now.station.crew;
        if (!crew.has(keeper)) {
            return refuse(BAD);
        }
        switch (what) {
            case 0:
                return crew.rankOf(keeper);
            case 1:
                return crew.tiredOf(keeper);
            case 2:
                return crew.lastsOf(keeper);
            case 3:
                return now.station.hoursPlannedFor(keeper);
            case 4:
                return crew.tendedBy(keeper);
            case 5:
                return crew.sleptBy(keeper);
            default:
                return refuse(BAD);
        }
    }

    // ---- the ships

    public int ship(int kind, int hour) {
        int hourNow = now.station.hour;
        if (!isWithin(kind, FISHER, MAIL) || !isWithin(hour, hourNow, hourNow + MOST_HOURS_AHEAD)) {
            return refuse(BAD);
        }
        if (now.fleet.isFull()) {
            return refuse(FULL);
        }
        return now.fleet.expect(kind, hour);
    }

    public int shipOf(int ship, int what) {
        Fleet fleet = now.fleet;
        if (!fleet.has(ship)) {
            return refuse(BAD);
        }
        switch (what) {
            case 0:
                return fleet.kindOf(ship);
            case 1:
                return fleet.hourOf(ship);
            case 2:
                return fleet.fateOf(ship);
            case 3:
                return fleet.metOf(ship);
            default:
                return refuse(BAD);
        }
    }

    public int shipAt(int hour, int i) {
        if (hour < 0) {
            return refuse(BAD);
        }
        Fleet fleet = now.fleet;
        int first = fleet.firstPlaceOf(hour);
        if (!isWithin(i, 0, MOST_SHIPS) || !fleet.isPlaceOf(hour, first + i)) {
            return NONE;
        }
        return fleet.shipInPlace(first + i);
    }

    public int many(int kind, int what) {
        if (!isKind(kind) || !isWithin(what, SAFE, WRECK)) {
            return refuse(BAD);
        }
        return now.fleet.countFates(kind, what);
    }

    // ---- hours pass

    public int pass(int n) {
        if (!areHours(n)) {
            return refuse(BAD);
        }
        int before = now.unlit;
        for (int h = 0; h < n; h++) {
            now.passHour();
        }
        return now.unlit - before;
    }

    public int days(int n) {
        if (!isWithin(n, 1, MOST_DAYS)) {
            return refuse(BAD);
        }
        int before = now.unlit;
        for (int d = 0; d < n; d++) {
            now.passDay();
        }
        return now.unlit - before;
    }

    public int seed(int v) {
        int before = now.seed;
        now.seed = v;
        return before;
    }

    // ---- the logs

    public int log(int i, int what) {
        LogBook book = now.book;
        if (!book.has(i)) {
            return refuse(BAD);
        }
        switch (what) {
            case 0:
                return book.hourOf(i);
            case 1:
                return book.sortOf(i);
            case 2:
                return book.shipOfEntry(i);
            case 3:
                return book.writerOf(i);
            default:
                return refuse(BAD);
        }
    }

    public int logged(int sort) {
        if (!isWithin(sort, 0, WROTE_WRECK)) {
            return refuse(BAD);
        }
        return sort == 0 ? now.book.count : now.book.countOf(sort);
    }

    public int difference(int i, int what) {
        int entry = now.entryOfDifference(i);
        if (!now.book.has(entry)) {
            return refuse(BAD);
        }
        switch (what) {
            case 0:
                return now.book.hourOf(entry);
            case 1:
                return now.shipAgainst(entry);
            case 2:
                return now.book.writerOf(entry);
            default:
                return refuse(BAD);
        }
    }

    public int differences(int keeper) {
        return isKeeperOrNone(keeper) ? now.countDifferences(keeper) : refuse(BAD);
    }

    public int unlit() {
        return now.unlitHours;
    }

    public int judge(int i, int s, int n) {
        Shelf shelf = shelfAt(s);
        if (i < 0 || shelf == null || !isWithin(n, 0, MOST_TOLD_TWOS)) {
            return refuse(BAD);
        }
        int against = againstRowIn(s);
        if (against != NOT_REFUSED) {
            return refuse(against);
        }
        if (!shelf.hasElements(0, 2 * n)) {
            return refuse(BAD);
        }
        for (int k = 0; k < n; k++) {
            if (!isAsTold(i, k, shelf)) {
                return k;
            }
        }
        return NONE;
    }

    /** Whether the k-th entry behind the i-th is the k-th two that the shelf's row tells. */
    private boolean isAsTold(int i, int k, Shelf told) {
        LogBook book = now.book;
        // Looked at first, as i + k could be more than an int holds.
        if (!book.has(i) || !book.has(i + k)) {
            return false;
        }
        return told.valueAt(2 * k) == book.sortOf(i + k) && told.valueAt(2 * k + 1) == book.shipOfEntry(i + k);
    }

    // ---- in thought

    public int would(int n, int what) {
        if (!areHours(n) || !isWithin(what, 0, 5)) {
            return refuse(BAD);
        }
        thought.begin(now);
        thought.passHours(now.fleet, n);
        switch (what) {
            case 0:
                return thought.unlit;
            case 1:
                return thought.station.oil;
            case 2:
                return thought.station.coal;
            case 3:
                return thought.misses;
            case 4:
                return thought.wrecks;
            default:
                return thought.asleep;
        }
    }

    public int fails() {
        thought.begin(now);
        for (int h = 0; h < MOST_HOURS_AT_ONCE; h++) {
            int hour = thought.station.hour;
            thought.passHour(now.fleet);
            if (thought.unlit > 0) {
                return hour;
            }
        }
        return NONE;
    }

    public int comes() {
        thought.begin(now);
        for (int h = 0; h < MOST_HOURS_FOR_BOAT; h++) {
            int hour = thought.station.hour;
            int before = thought.station.boat.came;
            thought.passHour(now.fleet);
            if (thought.station.boat.came != before) {
                return hour;
            }
        }
        return NONE;
    }

    public int oil(int n) {
        if (!areHours(n)) {
            return refuse(BAD);
        }
        int fewest = unlitWithOil(n, MOST_STORED);
        int least = 0;
        int enough = MOST_STORED;
        // More OIL never makes more hours unlit, so that halving finds the least; 14 halves would do.
        for (int step = 0; step < 32 && least < enough; step++) {
            int middle = (least + enough) / 2;
            if (unlitWithOil(n, middle) <= fewest) {
                enough = middle;
            } else {
                least = middle + 1;
            }
        }
        return enough;
    }

    private int unlitWithOil(int n, int oil) {
        thought.begin(now);
        thought.station.oil = oil;
        return thought.passHours(now.fleet, n);
    }

    public int better(int hour, int n) {
        if (!isHourOfDay(hour) || !areHours(n)) {
            return refuse(BAD);
        }
        if (now.station.crew.count == 0) {
            return refuse(STUCK);
        }
        int fewest = unlitAsPlanned(n);
        int best = NONE;
        for (int k = 0; k < now.station.crew.count; k++) {
            thought.begin(now);
            thought.station.assign(hour, k);
            int unlit = thought.passHours(now.fleet, n);
            if (unlit < fewest) {
                fewest = unlit;
                best = k;
            }
        }
        return best;
    }

    public int other(int s, int n) {
        if (!areHours(n)) {
            return refuse(BAD);
        }
        int against = againstPlanIn(s);
        if (against != NOT_REFUSED) {
            return refuse(against);
        }
        int planned = unlitAsPlanned(n);
        thought.begin(now);
        assignAll(thought.station, shelfAt(s));
        return thought.passHours(now.fleet, n) - planned;
    }

    public int idle(int n) {
        if (!areHours(n)) {
            return refuse(BAD);
        }
        int planned = unlitAsPlanned(n);
        int keepers = 0;
        for (int k = 0; k < now.station.crew.count; k++) {
            thought.begin(now);
            thought.station.relieve(k);
            if (thought.passHours(now.fleet, n) <= planned) {
                keepers |= 1 << k;
            }
        }
        return keepers;
    }

    private int unlitAsPlanned(int n) {
        thought.begin(now);
        return thought.passHours(now.fleet, n);
    }

    // ---- image and status

    public int image() {
        kept.become(now);
        hasImage = true;
        return DONE;
    }

    public int back() {
        if (!hasImage) {
            return refuse(STUCK);
        }
        now.become(kept);
        for (int s = 0; s < SHELF_COUNT; s++) {
            Shelf shelf = shelfAt(s);
            if (shelf != null && shelf.isShip() && !now.fleet.has(shelf.shipNumber())) {
                shelf.takeNothing();
            }
        }
        return DONE;
    }

    public int status(int what) {
        Station station = now.station;
        switch (what) {
            case 0:
                return station.hour;
            case 1:
                return station.oil;
            case 2:
                return station.coal;
            case 3:
                return station.lit ? 1 : 0;
            case 4:
                return station.untended;
            case 5:
                return station.crew.count;
            case 6:
                return now.fleet.count;
            case 7:
                return now.book.count;
            case 8:
                return now.unlit;
            case 9:
                return station.boat.due;
            case 10:
                return station.sky.runs;
            case 11:
                return station.boat.came;
            case 17:
                return tape.size;
            case 18:
                return now.seed;
            case 19:
                return countFullShelves();
            default:
                return isWithin(what, 12, 16) ? refusals[what - 12] : NONE;
        }
    }

    private int countFullShelves() {
        int full = 0;
        for (int s = 0; s < SHELF_COUNT; s++) {
            Shelf shelf = shelfAt(s);
            if (shelf != null && !shelf.isEmpty()) {
                full++;
            }
        }
        return full;
    }

    // ---- refusals

    private int refuse(int number) {
        int sort = BAD - number;
        if (isWithin(sort, 0, REFUSAL_SORTS - 1)) {
            refusals[sort]++;
        }
        return number;
    }

    /** What stands against asking a shelf for its ROW: BAD SHELF; OTHER; NOTHING. */
    private int againstRowIn(int s) {
        Shelf shelf = shelfAt(s);
        if (shelf == null) {
            return BAD;
        }
        if (shelf.isShip()) {
            return OTHER;
        }
        return shelf.isEmpty() ? NOTHING : NOT_REFUSED;
    }

    /** What stands against taking a shelf's ROW for THE PLAN. */
    private int againstPlanIn(int s) {
        int against = againstRowIn(s);
        Shelf shelf = shelfAt(s);
        if (against != NOT_REFUSED || shelf == null) {
            return against;
        }
        if (!shelf.hasElements(0, DAY_HOURS)) {
            return BAD;
        }
        for (int hour = 0; hour < DAY_HOURS; hour++) {
            long keeper = shelf.valueAt(hour);
            if (keeper < NONE || keeper >= now.station.crew.count) {
                return BAD;
            }
        }
        return NOT_REFUSED;
    }

    private static void assignAll(Station station, Shelf plan) {
        if (plan == null) {
            return;
        }
        for (int hour = 0; hour < DAY_HOURS; hour++) {
            station.assign(hour, (int) plan.valueAt(hour));
        }
    }

    private Shelf shelfAt(int s) {
        return isWithin(s, 0, SHELF_COUNT - 1) ? shelves[s] : null;
    }

    private boolean isKeeperOrNone(int keeper) {
        return keeper == NONE || now.station.crew.has(keeper);
    }

    private static boolean isHourOfDay(int hour) {
        return isWithin(hour, 0, DAY_HOURS - 1);
    }

    private static boolean areHours(int n) {
        return isWithin(n, 0, MOST_HOURS_AT_ONCE);
    }

    private static boolean isKind(int kind) {
        return isWithin(kind, SHIP, MAIL);
    }

    private static boolean isWithin(int v, int least, int most) {
        return v >= least && v <= most;
    }

    // ---- kinds of ships

    private static int kindAbove(int kind) {
        switch (kind) {
            case SMALL:
            case GREAT:
                return SHIP;
            case FISHER:
            case PILOT:
                return SMALL;
            case COASTER:
            case LINER:
                return GREAT;
            case MAIL:
                return LINER;
            default:
                return NONE;
        }
    }

    /** Whether a kind is another one, or stands under it. */
    private static boolean isUnder(int kind, int other) {
        int above = kind;
        for (int step = 0; step <= MAIL && above != NONE; step++) {
            if (above == other) {
                return true;
            }
            above = kindAbove(above);
        }
        return false;
    }

    private static int lacks(int kind, boolean dark, boolean lit, int weather, boolean signal) {
        int things = 0;
        boolean unlit = dark && !lit && kind != PILOT;
        boolean unlitByDay = kind == MAIL && !dark && weather == STORM;
        if (unlit || unlitByDay) {
            things++;
        }
        if (weather == FOG && !signal && kind != FISHER) {
            things++;
        }
        if (weather == STORM && isUnder(kind, SMALL)) {
            things++;
        }
        return things;
    }

    private static int fateIn(Station station, int kind) {
        int things = lacks(kind, station.dark, station.lit, station.weather, station.signal);
        if (things == 0) {
            return SAFE;
        }
        boolean isSparing = things == 1 && !(station.weather == STORM && isUnder(kind, GREAT));
        return isSparing ? MISS : WRECK;
    }

    /** THE TAPE: what has been fed, until it is read. */
    private static final class Tape {
        static final int MOST_BYTES = 250;
        static final int BLANK = 32;

        final int[] bytes = new int[MOST_BYTES];
        int size = 0;

        boolean isFull() {
            return size >= MOST_BYTES;
        }

        void append(int letter) {
            if (!isFull()) {
                bytes[size] = letter;
                size++;
            }
        }

        /** Reads the tape as RUNS of a sky: the FAULT, or NONE. */
        int readInto(Sky sky) {
            sky.clear();
            int at = 0;
            for (int run = 0; run <= Sky.MOST_RUNS; run++) {
                int weather = weatherOf(byteAt(at));
                if (weather == NONE || sky.isFull()) {
                    return at;
                }
                int digits = countDigits(at + 1);
                int hours = numberAt(at + 1, digits);
                if (hours == 0) {
                    return at + 1;
                }
                sky.append(weather, hours);
                at += 1 + digits;
                if (at == size) {
                    return NONE;
                }
                if (byteAt(at) != BLANK) {
                    return at;
                }
                at++;
            }
            return at;
        }

        private int byteAt(int i) {
            return isWithin(i, 0, size - 1) ? bytes[i] : NONE;
        }

        private int countDigits(int i) {
            if (!isDigit(byteAt(i))) {
                return 0;
            }
            return isDigit(byteAt(i + 1)) ? 2 : 1;
        }

        private int numberAt(int i, int digits) {
            int number = 0;
            for (int d = 0; d < digits; d++) {
                number = number * 10 + byteAt(i + d) - '0';
            }
            return number;
        }

        private static boolean isDigit(int letter) {
            return isWithin(letter, '0', '9');
        }

        private static int weatherOf(int letter) {
            switch (letter) {
                case 'c':
                    return CLEAR;
                case 'f':
                    return FOG;
                case 's':
                    return STORM;
                default:
                    return NONE;
            }
        }
    }

    /** THE SKY: RUNS of weather, gone through again and again. */
    private static final class Sky {
        static final int MOST_RUNS = 20;

        final int[] weathers = new int[MOST_RUNS];
        final int[] lengths = new int[MOST_RUNS];
        int runs = 0;
        int allHours = 0;

        boolean isFull() {
            return runs >= MOST_RUNS;
        }

        void clear() {
            runs = 0;
            allHours = 0;
        }

        void append(int weather, int hours) {
            if (!isFull()) {
                weathers[runs] = weather;
                lengths[runs] = hours;
                runs++;
                allHours += hours;
            }
        }

        int weatherAt(int hour) {
            if (allHours <= 0) {
                return CLEAR;
            }
            int left = Math.floorMod(hour, allHours);
            for (int r = 0; r < runs; r++) {
                if (left < lengths[r]) {
                    return weathers[r];
                }
                left -= lengths[r];
            }
            return CLEAR;
        }

        void become(Sky sky) {
            System.arraycopy(sky.weathers, 0, weathers, 0, MOST_RUNS);
            System.arraycopy(sky.lengths, 0, lengths, 0, MOST_RUNS);
            runs = sky.runs;
            allHours = sky.allHours;
        }
    }

    /** The KEEPERS: who they are, and how they bear their watches. */
    private static final class Crew {
        static final int MOST_KEEPERS = 6;

        final int[] ranks = new int[MOST_KEEPERS];
        final int[] lasts = new int[MOST_KEEPERS];
        final int[] tired = new int[MOST_KEEPERS];
        final int[] tended = new int[MOST_KEEPERS];
        final int[] slept = new int[MOST_KEEPERS];
        int count = 0;

        boolean has(int keeper) {
            return keeper >= 0 && keeper < count;
        }

        boolean isFull() {
            return count >= MOST_KEEPERS;
        }

        int hire(int rank) {
            if (isFull()) {
                return NONE;
            }
            ranks[count] = rank;
            lasts[count] = lastsIn(rank);
            tired[count] = 0;
            tended[count] = 0;
            slept[count] = 0;
            count++;
            return count - 1;
        }

        int rankOf(int keeper) {
            return has(keeper) ? ranks[keeper] : NONE;
        }

        int tiredOf(int keeper) {
            return has(keeper) ? tired[keeper] : 0;
        }

        int tendedBy(int keeper) {
            return has(keeper) ? tended[keeper] : 0;
        }

        int sleptBy(int keeper) {
            return has(keeper) ? slept[keeper] : 0;
        }

        int lastsOf(int keeper) {
            return has(keeper) ? lasts[keeper] : 0;
        }

        private static int lastsIn(int rank) {
            switch (rank) {
                case HEAD:
                    return 12;
                case BOY:
                    return 6;
                default:
                    return 9;
            }
        }

        boolean isAwake(int keeper) {
            return has(keeper) && tired[keeper] < lasts[keeper];
        }

        /** An hour goes by: the one on watch worked it if he was awake, the others rested. */
        void spendHour(int watch, boolean isAwake, int work) {
            for (int k = 0; k < count; k++) {
                if (k == watch && isAwake) {
                    tired[k] += work;
                    tended[k]++;
                } else {
                    tired[k] = Math.max(0, tired[k] - 2);
                    slept[k] += k == watch ? 1 : 0;
                }
            }
        }

        void restAll() {
            for (int k = 0; k < count; k++) {
                tired[k] = 0;
            }
        }

        void become(Crew crew) {
            System.arraycopy(crew.ranks, 0, ranks, 0, MOST_KEEPERS);
            System.arraycopy(crew.lasts, 0, lasts, 0, MOST_KEEPERS);
            System.arraycopy(crew.tired, 0, tired, 0, MOST_KEEPERS);
            System.arraycopy(crew.tended, 0, tended, 0, MOST_KEEPERS);
            System.arraycopy(crew.slept, 0, slept, 0, MOST_KEEPERS);
            count = crew.count;
        }
    }

    /** THE BOAT, and what it brings. */
    private static final class Boat {
        int due = NONE;
        int every = 168;
        int oil = 0;
        int coal = 0;
        int came = 0;

        boolean isDueAt(int hour) {
            return due != NONE && hour >= due;
        }

        void become(Boat boat) {
            due = boat.due;
            every = boat.every;
            oil = boat.oil;
            coal = boat.coal;
            came = boat.came;
        }
    }

    /** The light with its keepers, its sky and its boat: all of an hour but the ships and the log. */
    private static final class Station {
        final Sky sky = new Sky();
        final Crew crew = new Crew();
        final Boat boat = new Boat();
        final int[] watches = new int[DAY_HOURS];
        int hour = 0;
        int dawn = 6;
        int dusk = 18;
        int wick = 1;
        int oil = 0;
        int coal = 0;
        boolean lit = false;
        int untended = 0;

        // How the hour is that passes: free between hours.
        int weather = CLEAR;
        boolean dark = false;
        int watch = NONE;
        boolean tended = false;
        boolean signal = false;

        Station() {
            Arrays.fill(watches, NONE);
        }

        boolean isDarkAt(int someHour) {
            int hourOfDay = Math.floorMod(someHour, DAY_HOURS);
            return hourOfDay < dawn || hourOfDay >= dusk;
        }

        int planned(int hourOfDay) {
            return isHourOfDay(hourOfDay) ? watches[hourOfDay] : NONE;
        }

        void assign(int hourOfDay, int keeper) {
            if (isHourOfDay(hourOfDay)) {
                watches[hourOfDay] = keeper;
            }
        }

        void relieve(int keeper) {
            for (int h = 0; h < DAY_HOURS; h++) {
                if (watches[h] == keeper) {
                    watches[h] = NONE;
                }
            }
        }

        int hoursPlannedFor(int keeper) {
            int hours = 0;
            for (int h = 0; h < DAY_HOURS; h++) {
                hours += watches[h] == keeper ? 1 : 0;
            }
            return hours;
        }

        /** The hour's first part, up to what ships meet in it. */
        void keepWatch() {
            weather = sky.weatherAt(hour);
            dark = isDarkAt(hour);
            watch = planned(Math.floorMod(hour, DAY_HOURS));
            tended = crew.isAwake(watch);
            tendLamp();
            signal = weather == FOG && tended && coal >= 1;
            if (signal) {
                coal--;
            }
        }

        private void tendLamp() {
            boolean canBurn = tended || (lit && untended == 0);
            lit = dark && canBurn && oil >= wick;
            untended = lit && !tended ? 1 : 0;
            if (lit) {
                oil -= wick;
            }
        }

        /** The hour's last part: TIRED, THE BOAT, and on to the next. */
        void endHour() {
            crew.spendHour(watch, tended, weather == STORM ? 2 : 1);
            if (boat.isDueAt(hour) && weather != STORM && !dark) {
                meetBoat();
            }
            hour++;
        }

        private void meetBoat() {
            oil = Math.min(MOST_STORED, oil + boat.oil);
            coal = Math.min(MOST_STORED, coal + boat.coal);
            crew.restAll();
            boat.due = hour + boat.every;
            boat.came++;
        }

        boolean isUnlit() {
            return dark && !lit;
        }

        boolean isAsleepOnWatch() {
            return crew.has(watch) && !tended;
        }

        boolean isBoyAsleepOnWatch() {
            return isAsleepOnWatch() && crew.rankOf(watch) == BOY;
        }

        void become(Station station) {
            sky.become(station.sky);
            crew.become(station.crew);
            boat.become(station.boat);
            System.arraycopy(station.watches, 0, watches, 0, DAY_HOURS);
            hour = station.hour;
            dawn = station.dawn;
            dusk = station.dusk;
            wick = station.wick;
            oil = station.oil;
            coal = station.coal;
            lit = station.lit;
            untended = station.untended;
        }
    }

    /** The SHIPS, with their own logs, in places by HOUR and then BY RANK. */
    private static final class Fleet {
        final int[] kinds = new int[MOST_SHIPS];
        final int[] hours = new int[MOST_SHIPS];
        final int[] fates = new int[MOST_SHIPS];
        final int[] mets = new int[MOST_SHIPS];
        final int[] places = new int[MOST_SHIPS];
        int count = 0;

        boolean has(int ship) {
            return ship >= 0 && ship < count;
        }

        boolean isFull() {
            return count >= MOST_SHIPS;
        }

        int kindOf(int ship) {
            return has(ship) ? kinds[ship] : NONE;
        }

        int hourOf(int ship) {
            return has(ship) ? hours[ship] : NONE;
        }

        int fateOf(int ship) {
            return has(ship) ? fates[ship] : NONE;
        }

        int metOf(int ship) {
            return has(ship) ? mets[ship] : NONE;
        }

        /** One more ship: its number. */
        int expect(int kind, int hour) {
            if (isFull()) {
                return NONE;
            }
            int place = count;
            // Behind all of its kind, as its number is the greatest so far.
            while (place > 0 && isBehind(shipInPlace(place - 1), kind, hour)) {
                places[place] = places[place - 1];
                place--;
            }
            places[place] = count;
            kinds[count] = kind;
            hours[count] = hour;
            fates[count] = NONE;
            mets[count] = NONE;
            count++;
            return count - 1;
        }

        private boolean isBehind(int ship, int kind, int hour) {
            return hourOf(ship) > hour || (hourOf(ship) == hour && kindOf(ship) < kind);
        }

        int shipInPlace(int place) {
            return isWithin(place, 0, count - 1) ? places[place] : NONE;
        }

        /** The place of an hour's first ship, or where it would be. */
        int firstPlaceOf(int hour) {
            int low = 0;
            int high = count;
            for (int step = 0; step < 32 && low < high; step++) {
                int middle = (low + high) / 2;
                if (hourOf(shipInPlace(middle)) < hour) {
                    low = middle + 1;
                } else {
                    high = middle;
                }
            }
            return low;
        }

        boolean isPlaceOf(int hour, int place) {
            return has(shipInPlace(place)) && hourOf(shipInPlace(place)) == hour;
        }

        void becameOf(int ship, int fate, int met) {
            if (has(ship)) {
                fates[ship] = fate;
                mets[ship] = met;
            }
        }

        int countFates(int kind, int fate) {
            int ships = 0;
            for (int ship = 0; ship < count; ship++) {
                if (fates[ship] == fate && isUnder(kinds[ship], kind)) {
                    ships++;
                }
            }
            return ships;
        }

        void become(Fleet fleet) {
            System.arraycopy(fleet.kinds, 0, kinds, 0, MOST_SHIPS);
            System.arraycopy(fleet.hours, 0, hours, 0, MOST_SHIPS);
            System.arraycopy(fleet.fates, 0, fates, 0, MOST_SHIPS);
            System.arraycopy(fleet.mets, 0, mets, 0, MOST_SHIPS);
            System.arraycopy(fleet.places, 0, places, 0, MOST_SHIPS);
            count = fleet.count;
        }
    }

    /** THE LOG. */
    private static final class LogBook {
        static final int MOST_ENTRIES = 400;

        final int[] hours = new int[MOST_ENTRIES];
        final int[] sorts = new int[MOST_ENTRIES];
        final int[] ships = new int[MOST_ENTRIES];
        final int[] writers = new int[MOST_ENTRIES];
        int count = 0;

        boolean has(int entry) {
            return entry >= 0 && entry < count;
        }

        void write(int hour, int sort, int ship, int writer) {
            if (count < MOST_ENTRIES) {
                hours[count] = hour;
                sorts[count] = sort;
                ships[count] = ship;
                writers[count] = writer;
                count++;
            }
        }

        int hourOf(int entry) {
            return has(entry) ? hours[entry] : NONE;
        }

        int sortOf(int entry) {
            return has(entry) ? sorts[entry] : NONE;
        }

        int shipOfEntry(int entry) {
            return has(entry) ? ships[entry] : NONE;
        }

        int writerOf(int entry) {
            return has(entry) ? writers[entry] : NONE;
        }

        int countOf(int sort) {
            int entries = 0;
            for (int entry = 0; entry < count; entry++) {
                entries += sorts[entry] == sort ? 1 : 0;
            }
            return entries;
        }

        void become(LogBook book) {
            System.arraycopy(book.hours, 0, hours, 0, MOST_ENTRIES);
            System.arraycopy(book.sorts, 0, sorts, 0, MOST_ENTRIES);
            System.arraycopy(book.ships, 0, ships, 0, MOST_ENTRIES);
            System.arraycopy(book.writers, 0, writers, 0, MOST_ENTRIES);
            count = book.count;
        }
    }

    /** All that an image keeps. */
    private static final class World {
        final Station station = new Station();
        final Fleet fleet = new Fleet();
        final LogBook book = new LogBook();
        int unlit = 0;
        int unlitHours = 0;
        int seed = 1;

        void passHour() {
            station.keepWatch();
            int first = fleet.firstPlaceOf(station.hour);
            meetShips(first);
            writeLog(first);
            if (station.isUnlit()) {
                unlit++;
                unlitHours |= 1 << Math.floorMod(station.hour, DAY_HOURS);
            }
            station.endHour();
        }

        private void meetShips(int first) {
            int met = (station.lit ? 1 : 0) + (station.signal ? 2 : 0);
            for (int place = first; place < fleet.count && fleet.isPlaceOf(station.hour, place); place++) {
                int ship = fleet.shipInPlace(place);
                fleet.becameOf(ship, fateIn(station, fleet.kindOf(ship)), met);
            }
        }

        private void writeLog(int first) {
            if (station.isBoyAsleepOnWatch() && station.dark) {
                enter(WROTE_LIT, NONE);
            }
            if (!station.tended) {
                return;
            }
            if (station.dark) {
                enter(station.lit ? WROTE_LIT : WROTE_DARK, NONE);
            }
            if (station.signal) {
                enter(WROTE_SOUNDED, NONE);
            }
            for (int place = first; place < fleet.count && fleet.isPlaceOf(station.hour, place); place++) {
                int ship = fleet.shipInPlace(place);
                enter(WROTE_SAFE + fleet.fateOf(ship), ship);
            }
        }

        private void enter(int sort, int ship) {
            book.write(station.hour, sort, ship, station.watch);
        }

        /** A DAY by draws. */
        void passDay() {
            if (draw(3) == 0 && !fleet.isFull()) {
                int kind = FISHER + draw(5);
                fleet.expect(kind, station.hour + draw(DAY_HOURS));
            }
            passHour();
        }

        private int draw(int n) {
            seed = seed * 1103515245 + 12345;
            return n > 0 ? (seed >>> 16) % n : 0;
        }

        /** The first ship BY RANK that met otherwise than an entry calls its hour; NONE. */
        int shipAgainst(int entry) {
            int sort = book.sortOf(entry);
            if (sort != WROTE_LIT && sort != WROTE_DARK) {
                return NONE;
            }
            int hour = book.hourOf(entry);
            int first = fleet.firstPlaceOf(hour);
            for (int place = first; place < fleet.count && fleet.isPlaceOf(hour, place); place++) {
                int ship = fleet.shipInPlace(place);
                boolean metLight = (fleet.metOf(ship) & 1) == 1;
                if (metLight != (sort == WROTE_LIT)) {
                    return ship;
                }
            }
            return NONE;
        }

        /** The entry by which the i-th difference is one; NONE: no i-th. */
        int entryOfDifference(int i) {
            int before = 0;
            for (int entry = 0; entry < book.count; entry++) {
                if (shipAgainst(entry) != NONE) {
                    if (before == i) {
                        return entry;
                    }
                    before++;
                }
            }
            return NONE;
        }

        /** Differences with entries of a keeper; NONE: of all. */
        int countDifferences(int keeper) {
            int differing = 0;
            for (int entry = 0; entry < book.count; entry++) {
                boolean isHis = keeper == NONE || book.writerOf(entry) == keeper;
                if (isHis && shipAgainst(entry) != NONE) {
                    differing++;
                }
            }
            return differing;
        }

        void become(World world) {
            station.become(world.station);
            fleet.become(world.fleet);
            book.become(world.book);
            unlit = world.unlit;
            unlitHours = world.unlitHours;
            seed = world.seed;
        }
    }

    /** Hours that pass in thought, and what is counted of them. */
    private static final class Thought {
        final Station station = new Station();
        int unlit = 0;
        int misses = 0;
        int wrecks = 0;
        int asleep = 0;
        private int nextPlace = 0;

        void begin(World world) {
            station.become(world.station);
            unlit = 0;
            misses = 0;
            wrecks = 0;
            asleep = 0;
            nextPlace = world.fleet.firstPlaceOf(station.hour);
        }

        /** Lets n hours pass: how many were unlit since the thought began. */
        int passHours(Fleet fleet, int n) {
            for (int h = 0; h < n; h++) {
                passHour(fleet);
            }
            return unlit;
        }

        void passHour(Fleet fleet) {
            station.keepWatch();
            unlit += station.isUnlit() ? 1 : 0;
            asleep += station.isAsleepOnWatch() ? 1 : 0;
            while (nextPlace < fleet.count && fleet.isPlaceOf(station.hour, nextPlace)) {
                int fate = fateIn(station, fleet.kindOf(fleet.shipInPlace(nextPlace)));
                misses += fate == MISS ? 1 : 0;
                wrecks += fate == WRECK ? 1 : 0;
                nextPlace++;
            }
            station.endHour();
        }
    }

    /** A SHELF: it holds NOTHING, a ROW or a SHIP. */
    private static final class Shelf {
        static final int BYTES = 0;
        static final int SHORTS = 1;
        static final int INTS = 2;
        static final int BOOLEANS = 4;
        static final int MOST_ELEMENTS = 40;
        static final int FIRST_SHIP = 10;

        private final long[] elements = new long[MOST_ELEMENTS];
        private int size = 0;
        private int held = NONE;

        /** NONE, a ROW's SORT, or 10 and a SHIP's number. */
        int content() {
            return held;
        }

        boolean isEmpty() {
            return held == NONE;
        }

        boolean isShip() {
            return held >= FIRST_SHIP;
        }

        boolean isOfSameSort(Shelf shelf) {
            return held == shelf.held;
        }

        int shipNumber() {
            return isShip() ? held - FIRST_SHIP : NONE;
        }

        void takeNothing() {
            held = NONE;
            size = 0;
        }

        void takeShip(int ship) {
            held = FIRST_SHIP + ship;
            size = 0;
        }

        void takeRow(int sort, int n) {
            held = sort;
            size = n;
            Arrays.fill(elements, 0L);
        }

        boolean hasElement(int i) {
            return isWithin(i, 0, size - 1);
        }

        boolean hasElements(int i, int n) {
            return n >= 0 && isWithin(i, 0, size) && n <= size - i;
        }

        long valueAt(int i) {
            return hasElement(i) ? elements[i] : 0;
        }

        void put(int i, long v) {
            if (hasElement(i)) {
                elements[i] = fitted(v);
            }
        }

        private long fitted(long v) {
            switch (held) {
                case BYTES:
                    return (byte) v;
                case SHORTS:
                    return (short) v;
                case INTS:
                    return (int) v;
                case BOOLEANS:
                    return v != 0 ? 1 : 0;
                default:
                    return v;
            }
        }

        void takeElements(int j, Shelf from, int i, int n) {
            if (hasElements(j, n) && from.hasElements(i, n)) {
                System.arraycopy(from.elements, i, elements, j, n);
            }
        }
    }
}
