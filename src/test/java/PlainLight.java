import java.util.ArrayList;
import java.util.List;

/**
 * The document once more, in the plainest and slowest form: thoughts are whole copies that really pass,
 * the least oil is looked for one by one. ModelTest compares KeptLight with it.
 */
final class PlainLight {
    static final int[] ABOVE = {-1, 0, 0, 1, 1, 2, 2, 6};
    static final int[] LASTS = {12, 9, 6};

    static final class Keeper {
        int rank, tired, tended, slept;

        Keeper(int rank) {
            this.rank = rank;
        }

        Keeper twin() {
            Keeper twin = new Keeper(rank);
            twin.tired = tired;
            twin.tended = tended;
            twin.slept = slept;
            return twin;
        }
    }

    static final class Ship {
        final int number, kind, hour;
        int fate = -1;
        int met = -1;

        Ship(int number, int kind, int hour) {
            this.number = number;
            this.kind = kind;
            this.hour = hour;
        }

        Ship twin() {
            Ship twin = new Ship(number, kind, hour);
            twin.fate = fate;
            twin.met = met;
            return twin;
        }
    }

    /** All that an image keeps. */
    static final class World {
        int hour, dawn = 6, dusk = 18, oil, coal, wick = 1, untended, unlit, unlitHours, seed = 1;
        boolean lit;
        int due = -1, every = 168, boatOil, boatCoal, came;
        int asleep;
        int runs;
        List<Integer> sky = new ArrayList<>();
        List<Keeper> keepers = new ArrayList<>();
        int[] plan = new int[24];
        List<Ship> ships = new ArrayList<>();
        List<int[]> log = new ArrayList<>();

        World() {
            java.util.Arrays.fill(plan, -1);
        }

        World twin() {
            World w = new World();
            w.hour = hour;
            w.dawn = dawn;
            w.dusk = dusk;
            w.oil = oil;
            w.coal = coal;
            w.wick = wick;
            w.untended = untended;
            w.unlit = unlit;
            w.unlitHours = unlitHours;
            w.seed = seed;
            w.lit = lit;
            w.due = due;
            w.every = every;
            w.boatOil = boatOil;
            w.boatCoal = boatCoal;
            w.came = came;
            w.asleep = asleep;
            w.runs = runs;
            w.sky = new ArrayList<>(sky);
            for (Keeper k : keepers) {
                w.keepers.add(k.twin());
            }
            w.plan = plan.clone();
            for (Ship s : ships) {
                w.ships.add(s.twin());
            }
            w.log = new ArrayList<>(log);
            return w;
        }

        int weather(int h) {
            return sky.isEmpty() ? 0 : sky.get(h % sky.size());
        }

        boolean dark(int h) {
            return h % 24 < dawn || h % 24 >= dusk;
        }

        List<Ship> byRank(int h) {
            List<Ship> of = new ArrayList<>();
            for (Ship s : ships) {
                if (s.hour == h) {
                    of.add(s);
                }
            }
            of.sort((a, b) -> a.kind != b.kind ? b.kind - a.kind : a.number - b.number);
            return of;
        }

        void enter(int sort, int ship, int keeper) {
            if (log.size() < 400) {
                log.add(new int[] {hour, sort, ship, keeper});
            }
        }

        void passHour() {
            int who = plan[hour % 24];
            Keeper watch = who < 0 ? null : keepers.get(who);
            boolean sleeps = watch != null && watch.tired >= LASTS[watch.rank];
            boolean tended = watch != null && !sleeps;
            boolean dark = dark(hour);
            int weather = weather(hour);
            if (dark && (tended || (lit && untended == 0)) && oil >= wick) {
                lit = true;
                oil -= wick;
                untended = tended ? 0 : 1;
            } else {
                lit = false;
                untended = 0;
            }
            boolean signal = weather == 1 && tended && coal >= 1;
            if (signal) {
                coal--;
            }
            List<Ship> here = byRank(hour);
            for (Ship s : here) {
                s.fate = fate(s.kind, dark, lit, weather, signal);
                s.met = lit ? signal ? 3 : 1 : signal ? 2 : 0;
            }
            if (tended) {
                if (dark) {
                    enter(lit ? 1 : 2, -1, who);
                }
                if (signal) {
                    enter(3, -1, who);
                }
                for (Ship s : here) {
                    enter(4 + s.fate, s.number, who);
                }
            }
            if (sleeps) {
                asleep++;
                if (watch.rank == 2 && dark) {
                    enter(1, -1, who);
                }
            }
            for (Keeper k : keepers) {
                if (k == watch && tended) {
                    k.tired += weather == 2 ? 2 : 1;
                    k.tended++;
                } else {
                    k.tired = k.tired < 2 ? 0 : k.tired - 2;
                    if (k == watch) {
                        k.slept++;
                    }
                }
            }
            if (due != -1 && hour >= due && weather != 2 && !dark) {
                oil = Math.min(9999, oil + boatOil);
                coal = Math.min(9999, coal + boatCoal);
                for (Keeper k : keepers) {
                    k.tired = 0;
                }
                due = hour + every;
                came++;
            }
            if (dark && !lit) {
                unlit++;
                unlitHours |= 1 << (hour % 24);
            }
            hour++;
        }

        World after(int n) {
            World w = twin();
            for (int i = 0; i < n; i++) {
                w.passHour();
            }
            return w;
        }

        int unlitAfter(int n) {
            return after(n).unlit - unlit;
        }

        int draw(int n) {
            seed = seed * 1103515245 + 12345;
            return (seed >>> 16) % n;
        }

        /** HOURS with a difference: HOUR, first SHIP, KEEPER. */
        List<int[]> differences() {
            List<int[]> found = new ArrayList<>();
            for (int h = 0; h < hour; h++) {
                for (int[] e : log) {
                    if (e[0] == h && e[1] <= 2) {
                        int first = -1;
                        for (Ship s : byRank(h)) {
                            boolean light = s.met == 1 || s.met == 3;
                            if (first < 0 && light == (e[1] == 2)) {
                                first = s.number;
                            }
                        }
                        if (first >= 0) {
                            found.add(new int[] {h, first, e[3]});
                        }
                    }
                }
            }
            return found;
        }
    }

    static boolean under(int kind, int other) {
        return kind >= 0 && (kind == other || under(ABOVE[kind], other));
    }

    static int lacks(int kind, boolean dark, boolean lit, int weather, boolean signal) {
        int n = 0;
        if (kind == 7 && !dark && weather == 2) {
            n++;
        }
        if (kind != 4 && dark && !lit) {
            n++;
        }
        if (kind != 3 && weather == 1 && !signal) {
            n++;
        }
        if (under(kind, 1) && weather == 2) {
            n++;
        }
        return n;
    }

    static int fate(int kind, boolean dark, boolean lit, int weather, boolean signal) {
        int n = lacks(kind, dark, lit, weather, signal);
        if (n == 1 && under(kind, 2) && weather == 2) {
            return 2;
        }
        return Math.min(n, 2);
    }

    World w = new World();
    World image;
    List<Integer> tape = new ArrayList<>();
    /** Null: NOTHING; a row's values behind its sort; or 10 and a ship alone. */
    long[][] shelves = new long[8][];
    int[] refused = new int[5];

    int no(int number) {
        refused[-102 - number]++;
        return number;
    }

    static boolean in(long v, long least, long most) {
        return v >= least && v <= most;
    }

    boolean keeperOrNone(long k) {
        return in(k, -1, w.keepers.size() - 1);
    }

    boolean shipIn(int s) {
        return shelves[s] != null && shelves[s][0] >= 10;
    }

    int row(int s, int sort, int n) {
        if (!in(s, 0, 7) || !in(sort, 0, 4) || !in(n, 0, 40)) {
            return no(-102);
        }
        shelves[s] = new long[n + 1];
        shelves[s][0] = sort;
        return 1;
    }

    int set(int s, int i, long v) {
        if (!in(s, 0, 7)) {
            return no(-102);
        }
        if (shipIn(s)) {
            return no(-103);
        }
        if (shelves[s] == null) {
            return no(-104);
        }
        if (!in(i, 0, shelves[s].length - 2)) {
            return no(-102);
        }
        int sort = (int) shelves[s][0];
        int[] bits = {8, 16, 32, 64};
        shelves[s][i + 1] = sort == 4 ? (v == 0 ? 0 : 1) : v << (64 - bits[sort]) >> (64 - bits[sort]);
        return 1;
    }

    int copy(int p, int q, int i, int j, int n) {
        if (!in(p, 0, 7) || !in(q, 0, 7)) {
            return no(-102);
        }
        long[] a = shelves[p];
        long[] b = shelves[q];
        if (shipIn(p) || shipIn(q) || (a != null && b != null && a[0] != b[0])) {
            return no(-103);
        }
        if (a == null || b == null) {
            return no(-104);
        }
        if (n < 0 || i < 0 || j < 0 || (long) i + n > a.length - 1 || (long) j + n > b.length - 1) {
            return no(-102);
        }
        long[] were = a.clone();
        for (int k = 0; k < n; k++) {
            b[j + 1 + k] = were[i + 1 + k];
        }
        return n;
    }

    long element(int s, int i) {
        if (!in(s, 0, 7) || shelves[s] == null || shipIn(s) || !in(i, 0, shelves[s].length - 2)) {
            return 0;
        }
        return shelves[s][i + 1];
    }

    int holds(int s) {
        return !in(s, 0, 7) || shelves[s] == null ? -1 : (int) shelves[s][0];
    }

    int show(int s, int ship) {
        if (!in(s, 0, 7) || !in(ship, -1, w.ships.size() - 1)) {
            return no(-102);
        }
        shelves[s] = ship < 0 ? null : new long[] {10 + ship};
        return 1;
    }

    int says(int s, int kind) {
        if (!in(s, 0, 7) || !in(kind, 0, 7)) {
            return no(-102);
        }
        if (shelves[s] == null) {
            return no(-104);
        }
        if (!shipIn(s)) {
            return no(-103);
        }
        Ship ship = w.ships.get((int) shelves[s][0] - 10);
        if (!under(ship.kind, kind)) {
            return no(-103);
        }
        switch (kind) {
            case 0:
                return ship.hour;
            case 1:
                return lacks(ship.kind, false, false, 2, false);
            case 2:
                return lacks(ship.kind, true, false, 1, false);
            case 6:
                return ship.met;
            case 7:
                return ship.fate == 2 ? 1 : 0;
            default:
                return ship.fate;
        }
    }

    int feed(int letter) {
        if (!in(letter, 0, 255)) {
            return no(-102);
        }
        if (tape.size() == 250) {
            return no(-106);
        }
        tape.add(letter);
        return tape.size();
    }

    int wipe() {
        int size = tape.size();
        tape.clear();
        return size;
    }

    int sky() {
        StringBuilder text = new StringBuilder();
        for (int b : tape) {
            text.append((char) b);
        }
        tape.clear();
        int fault = fault(text.toString());
        if (fault >= 0) {
            no(-102);
            return -300 - fault;
        }
        w.sky.clear();
        String[] runs = text.toString().split(" ");
        w.runs = runs.length;
        for (String run : runs) {
            for (int k = 0; k < Integer.parseInt(run.substring(1)); k++) {
                w.sky.add("cfs".indexOf(run.charAt(0)));
            }
        }
        return runs.length;
    }

    /** The first place up to which the text could not be the beginning of a sky. */
    static int fault(String text) {
        String run = "[cfs](0[1-9]|[1-9][0-9]?)";
        if (text.matches(run + "( " + run + "){0,19}")) {
            return -1;
        }
        String begun = "|[cfs]|[cfs]0";
        for (int size = 1; size <= text.length(); size++) {
            String start = text.substring(0, size);
            boolean can = start.matches("(" + run + " ){0,19}(" + run + begun + ")?")
                    || start.matches("(" + run + " ){20}");
            if (!can) {
                return zeroAhead(text, size - 1);
            }
        }
        return zeroAhead(text, text.length());
    }

    /** A 0 right ahead of the place, and right behind a letter, is the first digit of a number that may not be. */
    static int zeroAhead(String text, int place) {
        boolean zero = place >= 2 && text.charAt(place - 1) == '0' && "cfs".indexOf(text.charAt(place - 2)) >= 0;
        return zero ? place - 1 : place;
    }

    int weather(int hour) {
        return hour < 0 ? no(-102) : w.weather(hour);
    }

    int dark(int hour) {
        return hour < 0 ? no(-102) : w.dark(hour) ? 1 : 0;
    }

    int keeper(int rank) {
        if (!in(rank, 0, 2)) {
            return no(-102);
        }
        if (w.keepers.size() == 6) {
            return no(-106);
        }
        w.keepers.add(new Keeper(rank));
        return w.keepers.size() - 1;
    }

    int plan(int hour, int keeper) {
        if (!in(hour, 0, 23) || !keeperOrNone(keeper)) {
            return no(-102);
        }
        int before = w.plan[hour];
        w.plan[hour] = keeper;
        return before;
    }

    /** The number of the refusal, or 0. */
    int planIn(int s) {
        if (!in(s, 0, 7)) {
            return -102;
        }
        if (shipIn(s)) {
            return -103;
        }
        if (shelves[s] == null) {
            return -104;
        }
        if (shelves[s].length < 25) {
            return -102;
        }
        for (int h = 0; h < 24; h++) {
            if (!keeperOrNone(shelves[s][h + 1])) {
                return -102;
            }
        }
        return 0;
    }

    int plans(int s) {
        int bad = planIn(s);
        if (bad != 0) {
            return no(bad);
        }
        for (int h = 0; h < 24; h++) {
            w.plan[h] = (int) shelves[s][h + 1];
        }
        return 1;
    }

    int tell(int what, int v) {
        int[] least = {0, 13, 1, 0, 0};
        int[] most = {12, 24, 4, 9999, 9999};
        if (!in(what, 0, 4) || !in(v, least[what], most[what])) {
            return no(-102);
        }
        int[] before = {w.dawn, w.dusk, w.wick, w.oil, w.coal};
        if (what == 0) {
            w.dawn = v;
        } else if (what == 1) {
            w.dusk = v;
        } else if (what == 2) {
            w.wick = v;
        } else if (what == 3) {
            w.oil = v;
        } else {
            w.coal = v;
        }
        return before[what];
    }

    int boat(int what, int v) {
        int[] least = {w.hour, 1, 0, 0};
        int[] most = {w.hour + 9999, 999, 9999, 9999};
        if (!in(what, 0, 3) || !(in(v, least[what], most[what]) || (what == 0 && v == -1))) {
            return no(-102);
        }
        int[] before = {w.due, w.every, w.boatOil, w.boatCoal};
        if (what == 0) {
            w.due = v;
        } else if (what == 1) {
            w.every = v;
        } else if (what == 2) {
            w.boatOil = v;
        } else {
            w.boatCoal = v;
        }
        return before[what];
    }

    int ship(int kind, int hour) {
        if (!in(kind, 3, 7) || !in(hour, w.hour, w.hour + 999)) {
            return no(-102);
        }
        if (w.ships.size() == 200) {
            return no(-106);
        }
        w.ships.add(new Ship(w.ships.size(), kind, hour));
        return w.ships.size() - 1;
    }

    int pass(int n) {
        if (!in(n, 0, 200)) {
            return no(-102);
        }
        int before = w.unlit;
        w = w.after(n);
        return w.unlit - before;
    }

    int keeperOf(int keeper, int what) {
        if (!in(keeper, 0, w.keepers.size() - 1) || !in(what, 0, 5)) {
            return no(-102);
        }
        Keeper k = w.keepers.get(keeper);
        int hours = 0;
        for (int who : w.plan) {
            if (who == keeper) {
                hours++;
            }
        }
        return new int[] {k.rank, k.tired, LASTS[k.rank], hours, k.tended, k.slept}[what];
    }

    int shipOf(int ship, int what) {
        if (!in(ship, 0, w.ships.size() - 1) || !in(what, 0, 3)) {
            return no(-102);
        }
        Ship s = w.ships.get(ship);
        return new int[] {s.kind, s.hour, s.fate, s.met}[what];
    }

    int shipAt(int hour, int i) {
        if (hour < 0) {
            return no(-102);
        }
        List<Ship> of = w.byRank(hour);
        return in(i, 0, of.size() - 1) ? of.get(i).number : -1;
    }

    int many(int kind, int what) {
        if (!in(kind, 0, 7) || !in(what, 0, 2)) {
            return no(-102);
        }
        int n = 0;
        for (Ship s : w.ships) {
            if (under(s.kind, kind) && s.fate == what) {
                n++;
            }
        }
        return n;
    }

    int log(int i, int what) {
        if (!in(i, 0, w.log.size() - 1) || !in(what, 0, 3)) {
            return no(-102);
        }
        return w.log.get(i)[what];
    }

    int logged(int sort) {
        if (!in(sort, 0, 6)) {
            return no(-102);
        }
        int n = 0;
        for (int[] e : w.log) {
            if (sort == 0 || e[1] == sort) {
                n++;
            }
        }
        return n;
    }

    int difference(int i, int what) {
        List<int[]> all = w.differences();
        if (!in(i, 0, all.size() - 1) || !in(what, 0, 2)) {
            return no(-102);
        }
        return all.get(i)[what];
    }

    int differences(int keeper) {
        if (!keeperOrNone(keeper)) {
            return no(-102);
        }
        int n = 0;
        for (int[] d : w.differences()) {
            if (keeper == -1 || d[2] == keeper) {
                n++;
            }
        }
        return n;
    }

    int unlit() {
        return w.unlitHours;
    }

    int would(int n, int what) {
        if (!in(n, 0, 200) || !in(what, 0, 5)) {
            return no(-102);
        }
        World then = w.after(n);
        int[] fates = new int[3];
        for (int s = 0; s < w.ships.size(); s++) {
            if (w.ships.get(s).fate == -1 && then.ships.get(s).fate != -1) {
                fates[then.ships.get(s).fate]++;
            }
        }
        return new int[] {then.unlit - w.unlit, then.oil, then.coal, fates[1], fates[2], then.asleep - w.asleep}[what];
    }

    int fails() {
        World then = w.twin();
        for (int h = w.hour; h < w.hour + 200; h++) {
            then.passHour();
            if (then.unlit > w.unlit) {
                return h;
            }
        }
        return -1;
    }

    int comes() {
        World then = w.twin();
        for (int h = w.hour; h < w.hour + 400; h++) {
            then.passHour();
            if (then.came > w.came) {
                return h;
            }
        }
        return -1;
    }

    int oil(int n) {
        if (!in(n, 0, 200)) {
            return no(-102);
        }
        World other = w.twin();
        other.ships.clear();
        other.log.clear();
        other.oil = 9999;
        int fewest = other.unlitAfter(n);
        other.oil = 0;
        while (other.unlitAfter(n) > fewest) {
            other.oil++;
        }
        return other.oil;
    }

    int better(int hour, int n) {
        if (!in(hour, 0, 23) || !in(n, 0, 200)) {
            return no(-102);
        }
        if (w.keepers.isEmpty()) {
            return no(-105);
        }
        int best = -1;
        int fewest = Integer.MAX_VALUE;
        for (int k = 0; k < w.keepers.size(); k++) {
            World other = w.twin();
            other.plan[hour] = k;
            if (other.unlitAfter(n) < fewest) {
                fewest = other.unlitAfter(n);
                best = k;
            }
        }
        return w.unlitAfter(n) <= fewest ? -1 : best;
    }

    int other(int s, int n) {
        if (!in(n, 0, 200)) {
            return no(-102);
        }
        int bad = planIn(s);
        if (bad != 0) {
            return no(bad);
        }
        World other = w.twin();
        for (int h = 0; h < 24; h++) {
            other.plan[h] = (int) shelves[s][h + 1];
        }
        return other.unlitAfter(n) - w.unlitAfter(n);
    }

    int idle(int n) {
        if (!in(n, 0, 200)) {
            return no(-102);
        }
        int bits = 0;
        for (int k = 0; k < w.keepers.size(); k++) {
            World other = w.twin();
            for (int h = 0; h < 24; h++) {
                if (other.plan[h] == k) {
                    other.plan[h] = -1;
                }
            }
            if (other.unlitAfter(n) <= w.unlitAfter(n)) {
                bits += 1 << k;
            }
        }
        return bits;
    }

    int judge(int i, int s, int n) {
        if (i < 0 || !in(s, 0, 7) || !in(n, 0, 20)) {
            return no(-102);
        }
        if (shipIn(s)) {
            return no(-103);
        }
        if (shelves[s] == null) {
            return no(-104);
        }
        if (shelves[s].length - 1 < 2 * n) {
            return no(-102);
        }
        for (int k = 0; k < n; k++) {
            long at = (long) i + k;
            if (at >= w.log.size()) {
                return k;
            }
            int[] e = w.log.get((int) at);
            if (e[1] != shelves[s][1 + 2 * k] || e[2] != shelves[s][2 + 2 * k]) {
                return k;
            }
        }
        return -1;
    }

    int days(int n) {
        if (!in(n, 1, 60)) {
            return no(-102);
        }
        int before = w.unlit;
        for (int d = 0; d < n; d++) {
            if (w.draw(3) == 0 && w.ships.size() < 200) {
                int kind = 3 + w.draw(5);
                w.ships.add(new Ship(w.ships.size(), kind, w.hour + w.draw(24)));
            }
            w.passHour();
        }
        return w.unlit - before;
    }

    int seed(int v) {
        int before = w.seed;
        w.seed = v;
        return before;
    }

    int image() {
        image = w.twin();
        return 1;
    }

    int back() {
        if (image == null) {
            return no(-105);
        }
        w = image.twin();
        for (int s = 0; s < 8; s++) {
            if (shipIn(s) && shelves[s][0] - 10 >= w.ships.size()) {
                shelves[s] = null;
            }
        }
        return 1;
    }

    int status(int what) {
        if (in(what, 12, 16)) {
            return refused[what - 12];
        }
        int full = 0;
        for (long[] shelf : shelves) {
            if (shelf != null) {
                full++;
            }
        }
        int[] first = {w.hour, w.oil, w.coal, w.lit ? 1 : 0, w.untended, w.keepers.size(), w.ships.size(),
            w.log.size(), w.unlit, w.due, w.runs, w.came};
        if (in(what, 0, 11)) {
            return first[what];
        }
        return what == 17 ? tape.size() : what == 18 ? w.seed : what == 19 ? full : -1;
    }
}
