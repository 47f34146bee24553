/** Promises 25 to 28 and 37: THE LOG, how it differs from the ships' logs, and told logs. */
public final class LogTest {
    private static final long BAD = -102;
    private static final long OTHER = -103;
    private static final long NOTHING = -104;

    public static void main(String[] args) {
        promise25Log();
        promise25FilledIn();
        promise25OnlyBoysFillIn();
        promise25FourHundred();
        promise26Logged();
        promise27Difference();
        promise28Differences();
        promise27LitAfterAll();
        promise27FirstEntry();
        promise28TrueLog();
        promise37Judge();
        promise37Refused();
        Check.end();
    }

    private static void dueEntries(KeptLight light, int[][] entries) {
        Check.due("status(7)", light.status(7), entries.length);
        for (int i = 0; i < entries.length; i++) {
            for (int what = 0; what < 4; what++) {
                Check.due("log(" + i + ", " + what + ")", light.log(i, what), entries[i][what]);
            }
        }
    }

    /** Fog in the dark with ships of three ends, a storm, and a signal by day. */
    private static KeptLight foggy() {
        KeptLight light = new KeptLight();
        light.keeper(0);
        light.keeper(1);
        Check.sky(light, "c1 f2 s1 c2 f1 c9");
        light.tell(3, 2);
        light.tell(4, 2);
        light.plan(0, 0);
        light.plan(1, 1);
        light.plan(2, 1);
        light.plan(3, 0);
        light.plan(6, 0);
        light.plan(7, 0);
        int[][] ships = {{3, 1}, {7, 1}, {4, 2}, {6, 2}, {5, 3}, {4, 3}, {3, 4}, {5, 6}};
        for (int[] ship : ships) {
            light.ship(ship[0], ship[1]);
        }
        light.pass(2);
        light.tell(4, 0);
        light.pass(2);
        light.tell(4, 1);
        light.pass(4);
        return light;
    }

    private static void promise25Log() {
        KeptLight light = foggy();
        dueEntries(light, new int[][] {
            {0, 1, -1, 0},
            {1, 1, -1, 1}, {1, 3, -1, 1}, {1, 4, 1, 1}, {1, 4, 0, 1},
            {2, 2, -1, 1}, {2, 6, 3, 1}, {2, 5, 2, 1},
            {3, 2, -1, 0}, {3, 6, 4, 0}, {3, 5, 5, 0},
            {6, 3, -1, 0}, {6, 4, 7, 0},
        });
        Check.due("log(-1, 0)", light.log(-1, 0), BAD);
        Check.due("log(13, 0)", light.log(13, 0), BAD);
        Check.due("log(0, -1)", light.log(0, -1), BAD);
        Check.due("log(0, 4)", light.log(0, 4), BAD);
        Check.due("status(12)", light.status(12), 4);
    }

    /** A BOY on all watches in the long dark, without oil: he sleeps at 6, 9, 12 (the one hour by day), 15. */
    private static KeptLight sleepy(int rank) {
        KeptLight light = new KeptLight();
        light.keeper(1);
        light.keeper(rank);
        Check.watch(light, 1, 0, 23);
        light.tell(0, 12);
        light.tell(1, 13);
        int[][] ships = {{3, 3}, {3, 6}, {7, 6}, {5, 12}, {4, 15}, {4, 8}};
        for (int[] ship : ships) {
            light.ship(ship[0], ship[1]);
        }
        light.pass(16);
        return light;
    }

    private static void promise25FilledIn() {
        KeptLight light = sleepy(2);
        dueEntries(light, new int[][] {
            {0, 2, -1, 1}, {1, 2, -1, 1}, {2, 2, -1, 1}, {3, 2, -1, 1}, {3, 5, 0, 1}, {4, 2, -1, 1}, {5, 2, -1, 1},
            {6, 1, -1, 1}, {7, 2, -1, 1}, {8, 2, -1, 1}, {8, 4, 5, 1}, {9, 1, -1, 1}, {10, 2, -1, 1}, {11, 2, -1, 1},
            {13, 2, -1, 1}, {14, 2, -1, 1}, {15, 1, -1, 1},
        });
    }

    private static void promise25OnlyBoysFillIn() {
        KeptLight light = sleepy(1);
        Check.due("asleep of a HAND", light.keeperOf(1, 5), 3);
        Check.due("logged(LIT) of a HAND", light.logged(1), 0);
        KeptLight head = sleepy(0);
        Check.due("asleep of a HEAD", head.keeperOf(1, 5), 2);
        Check.due("logged(LIT) of a HEAD", head.logged(1), 0);
    }

    private static void promise25FourHundred() {
        KeptLight light = new KeptLight();
        for (int k = 0; k < 6; k++) {
            light.keeper(0);
            Check.watch(light, k, 4 * k, 4 * k + 3);
        }
        light.tell(0, 12);
        light.tell(1, 13);
        light.tell(3, 9999);
        light.ship(3, 416);
        light.ship(3, 417);
        light.pass(200);
        light.pass(200);
        Check.due("status(7) at 400", light.status(7), 383);
        light.pass(17);
        Check.due("status(7) at 417", light.status(7), 400);
        Check.due("the last entry's HOUR", light.log(399, 0), 416);
        Check.due("the last entry", light.log(399, 1), 1);
        Check.due("log(400, 0)", light.log(400, 0), BAD);
        light.pass(200);
        Check.due("status(7) when full", light.status(7), 400);
        Check.due("logged(0) when full", light.logged(0), 400);
        Check.due("logged(SAFE), lost", light.logged(4), 0);
        Check.due("shipOf(1, 2)", light.shipOf(1, 2), 0);
        Check.due("status(16)", light.status(16), 0);
    }

    private static void promise26Logged() {
        KeptLight light = foggy();
        long[] many = {13, 2, 2, 2, 3, 2, 2};
        for (int sort = 0; sort <= 6; sort++) {
            Check.due("logged(" + sort + ")", light.logged(sort), many[sort]);
        }
        Check.due("logged(-1)", light.logged(-1), BAD);
        Check.due("logged(7)", light.logged(7), BAD);
        Check.due("status(12)", light.status(12), 2);
    }

    private static void promise27Difference() {
        KeptLight light = sleepy(2);
        long[][] differences = {{6, 2, 1}, {15, 4, 1}};
        for (int i = 0; i < 2; i++) {
            for (int what = 0; what < 3; what++) {
                Check.due("difference(" + i + ", " + what + ")", light.difference(i, what), differences[i][what]);
            }
        }
        Check.due("difference(2, 0)", light.difference(2, 0), BAD);
        Check.due("difference(-1, 0)", light.difference(-1, 0), BAD);
        Check.due("difference(0, -1)", light.difference(0, -1), BAD);
        Check.due("difference(0, 3)", light.difference(0, 3), BAD);
        Check.due("difference(MIN, 0)", light.difference(Integer.MIN_VALUE, 0), BAD);
        Check.due("status(12)", light.status(12), 5);
    }

    private static void promise28Differences() {
        KeptLight light = sleepy(2);
        Check.due("differences(NONE)", light.differences(-1), 2);
        Check.due("differences(0)", light.differences(0), 0);
        Check.due("differences(1)", light.differences(1), 2);
        Check.due("differences(2)", light.differences(2), BAD);
        Check.due("differences(-2)", light.differences(-2), BAD);
        light.keeper(2);
        light.ship(3, 16);
        light.pass(1);
        Check.due("differences(NONE) behind a true hour", light.differences(-1), 2);
        Check.due("differences(2), a keeper now", light.differences(2), 0);
        Check.due("status(12)", light.status(12), 2);
    }

    /** The first hour that a boy sleeps the lamp still burns: no difference; nor with SOUND alone while DARK is told. */
    private static void promise27LitAfterAll() {
        KeptLight light = new KeptLight();
        light.keeper(2);
        Check.watch(light, 0, 0, 23);
        light.tell(0, 12);
        light.tell(1, 13);
        light.tell(3, 7);
        light.tell(4, 9);
        Check.sky(light, "f99");
        light.ship(3, 6);
        light.ship(3, 8);
        light.ship(3, 9);
        light.pass(10);
        Check.due("met at 6", light.shipOf(0, 3), 1);
        Check.due("met at 8", light.shipOf(1, 3), 2);
        Check.due("met at 9", light.shipOf(2, 3), 0);
        Check.due("differences(NONE)", light.differences(-1), 1);
        Check.due("difference(0, 0)", light.difference(0, 0), 9);
        Check.due("difference(0, 1)", light.difference(0, 1), 2);
        Check.due("difference(0, 2)", light.difference(0, 2), 0);
    }

    /** A BOY tired by a day without entries sleeps in the first hour of the dark. */
    private static void promise27FirstEntry() {
        KeptLight light = new KeptLight();
        light.keeper(2);
        Check.watch(light, 0, 12, 18);
        light.tell(0, 0);
        light.ship(3, 18);
        light.pass(19);
        Check.due("log(0, 1)", light.log(0, 1), 1);
        Check.due("differences(0)", light.differences(0), 1);
        Check.due("difference(0, 0)", light.difference(0, 0), 18);
    }

    private static void promise28TrueLog() {
        KeptLight light = foggy();
        Check.due("differences(NONE)", light.differences(-1), 0);
        Check.due("difference(0, 0)", light.difference(0, 0), BAD);
    }

    private static void promise37Judge() {
        KeptLight light = foggy();
        Check.ints(light, 0, 1, -1, 3, -1, 4, 1, 4, 0, 2, -1, 6, 3);
        Check.due("judge(1, 0, 6)", light.judge(1, 0, 6), -1);
        Check.due("judge(0, 0, 6)", light.judge(0, 0, 6), 1);
        Check.due("judge(2, 0, 6)", light.judge(2, 0, 6), 0);
        Check.due("judge(0, 0, 1)", light.judge(0, 0, 1), -1);
        Check.due("judge(13, 0, 0)", light.judge(13, 0, 0), -1);
        Check.due("judge(MAX, 0, 0)", light.judge(Integer.MAX_VALUE, 0, 0), -1);
        Check.due("judge(MAX, 0, 6)", light.judge(Integer.MAX_VALUE, 0, 6), 0);
        light.set(0, 7, 1);
        Check.due("judge(1, 0, 6), another ship", light.judge(1, 0, 6), 3);
        light.set(0, 2, 4);
        Check.due("judge(1, 0, 6), another sort", light.judge(1, 0, 6), 1);
        Check.ints(light, 1, 3, -1, 4, 7, 4, 7);
        Check.due("judge(11, 1, 2), the last two", light.judge(11, 1, 2), -1);
        Check.due("judge(11, 1, 3), behind the last", light.judge(11, 1, 3), 2);
        light.row(2, 3, 2);
        light.set(2, 0, (1L << 32) + 1);
        light.set(2, 1, -1);
        Check.due("judge(0, 2, 1), a long whose low half fits", light.judge(0, 2, 1), 0);
        Check.due("refusals", Check.refusals(light), 0);
        Check.ints(light, 3, -1, -1);
        Check.due("judge(13, 3, 1), told nothing where nothing is", light.judge(13, 3, 1), 0);
        KeptLight no = new KeptLight();
        no.row(0, 0, 40);
        Check.due("judge(0, 0, 20) of no entries", no.judge(0, 0, 20), 0);
    }

    private static void promise37Refused() {
        KeptLight light = foggy();
        light.row(0, 2, 39);
        light.show(1, 0);
        Check.due("judge(-1, 0, 1)", light.judge(-1, 0, 1), BAD);
        Check.due("judge(-1, 1, 1) of a ship", light.judge(-1, 1, 1), BAD);
        Check.due("judge(0, -1, 1)", light.judge(0, -1, 1), BAD);
        Check.due("judge(0, 8, 1)", light.judge(0, 8, 1), BAD);
        Check.due("judge(0, 1, -1) of a ship", light.judge(0, 1, -1), BAD);
        Check.due("judge(0, 2, 21) of nothing", light.judge(0, 2, 21), BAD);
        Check.due("judge(0, 1, 20) of a ship", light.judge(0, 1, 20), OTHER);
        Check.due("judge(0, 2, 20) of nothing", light.judge(0, 2, 20), NOTHING);
        Check.due("judge(0, 0, 20) of 39", light.judge(0, 0, 20), BAD);
        Check.due("judge(0, 0, 19) of 39", light.judge(0, 0, 19), 0);
        Check.due("status(12)", light.status(12), 7);
        Check.due("status(13)", light.status(13), 1);
        Check.due("status(14)", light.status(14), 1);
    }
}
