/** Promises 1 to 8: a new object, and what SHELVES hold, show and say. */
public final class ShelvesTest {
    private static final long BAD = -102;
    private static final long OTHER = -103;
    private static final long NOTHING = -104;

    public static void main(String[] args) {
        promise1New();
        promise2Row();
        promise3Set();
        promise4Copy();
        promise4Refused();
        promise5Element();
        promise6Holds();
        promise7Show();
        promise8Says();
        promise8SaysWhatBecame();
        promise8Refused();
        Check.end();
    }

    private static void promise1New() {
        KeptLight light = new KeptLight();
        long[] first = {0, 0, 0, 0, 0, 0, 0, 0, 0, -1, 0, 0, 0, 0, 0, 0, 0, 0, 1, 0};
        for (int what = 0; what < first.length; what++) {
            Check.due("status(" + what + ")", light.status(what), first[what]);
        }
        for (int s = 0; s < 8; s++) {
            Check.due("holds(" + s + ")", light.holds(s), -1);
        }
        for (int hour = 0; hour < 24; hour++) {
            Check.due("weather(" + hour + ")", light.weather(hour), 0);
            Check.due("dark(" + hour + ")", light.dark(hour), hour < 6 || hour >= 18 ? 1 : 0);
            Check.due("plan(" + hour + ", NONE)", light.plan(hour, -1), -1);
        }
        Check.due("wipe()", light.wipe(), 0);
        Check.due("log(0, 0)", light.log(0, 0), BAD);
        Check.due("shipOf(0, 0)", light.shipOf(0, 0), BAD);
        Check.due("keeperOf(0, 0)", light.keeperOf(0, 0), BAD);
    }

    private static void promise2Row() {
        KeptLight light = new KeptLight();
        Check.due("row(0, 0, 0)", light.row(0, 0, 0), 1);
        Check.due("row(7, 4, 40)", light.row(7, 4, 40), 1);
        Check.due("holds(0)", light.holds(0), 0);
        Check.due("holds(7)", light.holds(7), 4);
        Check.due("set(0, 0, 1)", light.set(0, 0, 1), BAD);
        Check.due("set(7, 39, 1)", light.set(7, 39, 1), 1);
        Check.due("row(7, 3, 40) again", light.row(7, 3, 40), 1);
        Check.due("element(7, 39) of a new row", light.element(7, 39), 0);
        int[][] wrong = {{-1, 0, 1}, {8, 0, 1}, {0, -1, 1}, {0, 5, 1}, {0, 0, -1}, {0, 0, 41}};
        for (int[] w : wrong) {
            Check.due("row(" + w[0] + ", " + w[1] + ", " + w[2] + ")", light.row(w[0], w[1], w[2]), BAD);
        }
        Check.due("holds(0) after refusals", light.holds(0), 0);
        Check.due("status(12)", light.status(12), 7);
    }

    private static void promise3Set() {
        KeptLight light = new KeptLight();
        long[][] kept = {
            {127, 127, 127, 127, 1},
            {128, -128, 128, 128, 1},
            {-129, 127, -129, -129, 1},
            {256, 0, 256, 256, 1},
            {32768, 0, -32768, 32768, 1},
            {-32769, -1, 32767, -32769, 1},
            {2147483648L, 0, 0, -2147483648L, 1},
            {4294967301L, 5, 5, 5, 1},
            {0, 0, 0, 0, 0},
            {-1, -1, -1, -1, 1},
        };
        for (int sort = 0; sort <= 4; sort++) {
            light.row(sort, sort, 2);
            for (long[] row : kept) {
                long want = sort == 3 ? row[0] : sort == 4 ? row[4] : row[sort + 1];
                Check.due("set(" + sort + ", 1, " + row[0] + ")", light.set(sort, 1, row[0]), 1);
                Check.due("element of sort " + sort, light.element(sort, 1), want);
            }
        }
        light.set(3, 0, Long.MIN_VALUE);
        Check.due("a long", light.element(3, 0), Long.MIN_VALUE);
        light.ship(3, 5);
        light.show(5, 0);
        Check.due("set(8, 9, 1)", light.set(8, 9, 1), BAD);
        Check.due("set(-1, 9, 1)", light.set(-1, 9, 1), BAD);
        Check.due("set(5, 9, 1) of a ship", light.set(5, 9, 1), OTHER);
        Check.due("set(6, 9, 1) of nothing", light.set(6, 9, 1), NOTHING);
        Check.due("set(0, 2, 1)", light.set(0, 2, 1), BAD);
        Check.due("set(0, -1, 1)", light.set(0, -1, 1), BAD);
        Check.due("status(12)", light.status(12), 4);
        Check.due("status(13)", light.status(13), 1);
        Check.due("status(14)", light.status(14), 1);
    }

    private static void dueRow(String call, KeptLight light, int s, long... want) {
        for (int i = 0; i < want.length; i++) {
            Check.due("element(" + s + ", " + i + ") after " + call, light.element(s, i), want[i]);
        }
    }

    private static void promise4Copy() {
        KeptLight light = new KeptLight();
        Check.ints(light, 0, 1, 2, 3, 4, 5);
        Check.ints(light, 1, 11, 12, 13);
        Check.due("copy(0, 1, 2, 1, 2)", light.copy(0, 1, 2, 1, 2), 2);
        dueRow("copy to another", light, 1, 11, 3, 4);
        dueRow("copy from", light, 0, 1, 2, 3, 4, 5);
        Check.due("copy(0, 0, 0, 1, 4)", light.copy(0, 0, 0, 1, 4), 4);
        dueRow("copy upward", light, 0, 1, 1, 2, 3, 4);
        Check.due("copy(0, 0, 1, 0, 4)", light.copy(0, 0, 1, 0, 4), 4);
        dueRow("copy downward", light, 0, 1, 2, 3, 4, 4);
        Check.due("copy(0, 1, 5, 3, 0)", light.copy(0, 1, 5, 3, 0), 0);
        Check.due("copy(0, 1, 0, 0, 3)", light.copy(0, 1, 0, 0, 3), 3);
        dueRow("copy of all that fits", light, 1, 1, 2, 3);
    }

    private static void promise4Refused() {
        KeptLight light = new KeptLight();
        Check.ints(light, 0, 1, 2, 3, 4, 5);
        Check.ints(light, 1, 11, 12, 13);
        light.row(2, 3, 5);
        light.ship(3, 5);
        light.show(3, 0);
        Check.due("copy from no shelf to a ship", light.copy(-1, 3, 0, 0, 1), BAD);
        Check.due("copy from a ship to no shelf", light.copy(3, 8, 0, 0, 1), BAD);
        Check.due("copy of two sorts", light.copy(0, 2, 0, 0, 1), OTHER);
        Check.due("copy of two sorts, and more than there are", light.copy(0, 2, 0, 0, 9), OTHER);
        Check.due("copy from a ship", light.copy(3, 0, 0, 0, 1), OTHER);
        Check.due("copy to a ship", light.copy(0, 3, 0, 0, 1), OTHER);
        Check.due("copy from nothing to a ship", light.copy(7, 3, 0, 0, 1), OTHER);
        Check.due("copy from a ship to nothing", light.copy(3, 7, 0, 0, 1), OTHER);
        Check.due("copy from nothing", light.copy(7, 0, 0, 0, 99), NOTHING);
        Check.due("copy to nothing", light.copy(0, 7, 0, 0, 99), NOTHING);
        int[][] wrong = {{-1, 0, 1}, {0, -1, 1}, {0, 0, -1}, {3, 0, 3}, {0, 1, 3}, {6, 0, 0}, {0, 4, 0},
            {Integer.MAX_VALUE, 0, 1}, {0, Integer.MAX_VALUE, 2}, {1, 1, Integer.MAX_VALUE}};
        for (int[] w : wrong) {
            String call = "copy(0, 1, " + w[0] + ", " + w[1] + ", " + w[2] + ")";
            Check.due(call, light.copy(0, 1, w[0], w[1], w[2]), BAD);
        }
        dueRow("refusals", light, 1, 11, 12, 13);
        Check.due("status(12)", light.status(12), 2 + wrong.length);
        Check.due("status(13)", light.status(13), 6);
        Check.due("status(14)", light.status(14), 2);
    }

    private static void promise5Element() {
        KeptLight light = new KeptLight();
        Check.ints(light, 0, 7, -8);
        light.ship(3, 5);
        light.show(1, 0);
        Check.due("element(0, 0)", light.element(0, 0), 7);
        Check.due("element(0, 1)", light.element(0, 1), -8);
        Check.due("element(0, 2)", light.element(0, 2), 0);
        Check.due("element(0, -1)", light.element(0, -1), 0);
        Check.due("element(1, 0) of a ship", light.element(1, 0), 0);
        Check.due("element(2, 0) of nothing", light.element(2, 0), 0);
        Check.due("element(-1, 0)", light.element(-1, 0), 0);
        Check.due("element(8, 0)", light.element(8, 0), 0);
        Check.due("refusals", Check.refusals(light), 0);
    }

    private static void promise6Holds() {
        KeptLight light = new KeptLight();
        light.ship(3, 5);
        light.ship(4, 5);
        for (int sort = 0; sort <= 4; sort++) {
            light.row(sort, sort, 1);
            Check.due("holds(" + sort + ")", light.holds(sort), sort);
        }
        light.show(5, 0);
        light.show(6, 1);
        Check.due("holds(5)", light.holds(5), 10);
        Check.due("holds(6)", light.holds(6), 11);
        Check.due("holds(7)", light.holds(7), -1);
        Check.due("holds(8)", light.holds(8), -1);
        Check.due("holds(-1)", light.holds(-1), -1);
        Check.due("refusals", Check.refusals(light), 0);
        Check.due("status(19)", light.status(19), 7);
    }

    private static void promise7Show() {
        KeptLight light = new KeptLight();
        Check.due("show(0, NONE)", light.show(0, -1), 1);
        Check.due("show(0, 0), no ship", light.show(0, 0), BAD);
        light.ship(5, 3);
        Check.due("show(7, 0)", light.show(7, 0), 1);
        Check.due("holds(7)", light.holds(7), 10);
        Check.due("show(7, 1)", light.show(7, 1), BAD);
        Check.due("show(7, -2)", light.show(7, -2), BAD);
        Check.due("show(8, 0)", light.show(8, 0), BAD);
        Check.due("show(-1, NONE)", light.show(-1, -1), BAD);
        Check.due("holds(7) after refusals", light.holds(7), 10);
        Check.due("show(7, NONE)", light.show(7, -1), 1);
        Check.due("holds(7) of nothing", light.holds(7), -1);
        light.row(7, 2, 3);
        Check.due("show(7, 0) in a row's place", light.show(7, 0), 1);
        Check.due("holds(7) again", light.holds(7), 10);
        Check.due("status(12)", light.status(12), 5);
    }

    private static void promise8Says() {
        KeptLight light = new KeptLight();
        for (int kind = 3; kind <= 7; kind++) {
            light.ship(kind, kind * 10);
            light.show(kind, kind - 3);
        }
        // Of each kind 3 to 7, what it says as one of kind 0 to 7 while its hour has not passed.
        long[][] said = {
            {30, 1, OTHER, -1, OTHER, OTHER, OTHER, OTHER},
            {40, 1, OTHER, OTHER, -1, OTHER, OTHER, OTHER},
            {50, OTHER, 2, OTHER, OTHER, -1, OTHER, OTHER},
            {60, OTHER, 2, OTHER, OTHER, OTHER, -1, OTHER},
            {70, OTHER, 2, OTHER, OTHER, OTHER, -1, 0},
        };
        for (int s = 3; s <= 7; s++) {
            for (int kind = 0; kind <= 7; kind++) {
                Check.due("says(" + s + ", " + kind + ")", light.says(s, kind), said[s - 3][kind]);
            }
        }
        Check.due("status(13)", light.status(13), 24);
        Check.due("status(12)", light.status(12), 0);
    }

    /** In the dark without a lamp: a FISHER and a COASTER miss, a PILOT is safe; in storm by day MAIL is wrecked. */
    private static void promise8SaysWhatBecame() {
        KeptLight light = new KeptLight();
        Check.sky(light, "c6 s1 f1");
        int[] kinds = {3, 4, 5, 6, 7, 7, 6};
        int[] hours = {0, 0, 0, 0, 6, 7, 7};
        long[] became = {1, 0, 1, 1, 2, 1, 1};
        for (int ship = 0; ship < kinds.length; ship++) {
            light.ship(kinds[ship], hours[ship]);
            light.show(ship, ship);
        }
        light.keeper(0);
        light.tell(3, 1);
        light.plan(1, 0);
        light.pass(8);
        for (int ship = 0; ship < kinds.length; ship++) {
            Check.due("shipOf(" + ship + ", 2)", light.shipOf(ship, 2), became[ship]);
        }
        Check.due("says(0, FISHER)", light.says(0, 3), 1);
        Check.due("says(1, PILOT)", light.says(1, 4), 0);
        Check.due("says(2, COASTER)", light.says(2, 5), 1);
        Check.due("says(3, LINER)", light.says(3, 6), 0);
        Check.due("says(4, MAIL), a wreck", light.says(4, 7), 1);
        Check.due("says(5, MAIL), a miss", light.says(5, 7), 0);
        Check.due("says(5, LINER)", light.says(5, 6), 0);
        KeptLight lit = new KeptLight();
        lit.keeper(0);
        lit.plan(0, 0);
        lit.tell(3, 9);
        lit.tell(4, 9);
        Check.sky(lit, "f9");
        lit.ship(7, 0);
        lit.ship(6, 9);
        lit.show(0, 0);
        lit.pass(1);
        Check.due("says(0, LINER), who met both", lit.says(0, 6), 3);
        Check.due("says(0, MAIL), safe", lit.says(0, 7), 0);
    }

    private static void promise8Refused() {
        KeptLight light = new KeptLight();
        light.ship(3, 1);
        light.show(0, 0);
        light.row(1, 2, 3);
        Check.due("says(-1, 0)", light.says(-1, 0), BAD);
        Check.due("says(8, 0)", light.says(8, 0), BAD);
        Check.due("says(0, -1)", light.says(0, -1), BAD);
        Check.due("says(0, 8)", light.says(0, 8), BAD);
        Check.due("says(1, 8) of a row", light.says(1, 8), BAD);
        Check.due("says(2, 8) of nothing", light.says(2, 8), BAD);
        Check.due("says(1, 0) of a row", light.says(1, 0), OTHER);
        Check.due("says(2, 0) of nothing", light.says(2, 0), NOTHING);
        Check.due("says(0, FISHER) isn't refused", light.says(0, 3), -1);
        Check.due("status(12)", light.status(12), 6);
        Check.due("status(13)", light.status(13), 1);
        Check.due("status(14)", light.status(14), 1);
    }
}
