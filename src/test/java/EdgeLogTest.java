/** The edges that promises 25 to 28 and 37 name, a sentence or a part of one each. */
public final class EdgeLogTest {
    /** Six entries: LIT, SOUNDED, SAFE of ship 0 in HOUR 0; DARK, WRECK of ship 2, MISS of ship 1 in HOUR 1. */
    private static final String SIX_ENTRIES = Edge.sky("f9", 1) + """
        keeper(1) = 0; keeper(0) = 1; plan(0, 1) = -1; plan(1, 0) = -1; tell(3, 1) = 0; tell(4, 1) = 0
        ship(3, 0) = 0; ship(3, 1) = 1; ship(5, 1) = 2; pass(2) = 1
        """;
    /** Those entries as they are told, in shelf 0. */
    private static final String TOLD = Edge.ints(0, 1, -1, 3, -1, 4, 0, 2, -1, 6, 2, 5, 1);

    /**
     * Two BOYS, each ASLEEP in his seventh hour without a LAMP, at 6 and at 13, and a HAND who isn't; SHIPS at both, one
     * ahead, one by day.
     */
    private static final String TWO_BOYS = "keeper(2) = 0; keeper(2) = 1; keeper(1) = 2; tell(0, 12) = 6; tell(1, 13) = 18\n"
        + Edge.watch(0, 0, 6) + Edge.watch(1, 7, 13) + """
        ship(3, 13) = 0; ship(4, 6) = 1; ship(3, 5) = 2; ship(6, 6) = 3; ship(5, 13) = 4; ship(5, 13) = 5
        ship(3, 12) = 6
        """;

    public static void main(String[] args) {
        logPlace();
        logOfNone();
        logWhat();
        logShipNone();
        logAtMost();
        loggedSorts();
        loggedCounts();
        differencePlace();
        differenceWhat();
        differenceOfNone();
        differenceByRank();
        differenceOfTheLeastKind();
        differenceOfTheFirstEntry();
        differenceOfTheLastEntry();
        differencesOfWhom();
        differencesOfEach();
        differencesOfNoKeepers();
        judgePlace();
        judgeHowMany();
        judgeMostTwos();
        judgeElements();
        judgeFirstThatIsNot();
        judgeBehindTheLast();
        judgeOfNoEntries();
        judgeOfSorts();
        judgeRefused();
        Check.end();
    }

    /** Promise 25, "The i-th entry of THE LOG .. BAD: also no i-th.": -1, the first, the last, one more. */
    private static void logPlace() {
        Edge.holds("log's place", SIX_ENTRIES, """
            status(7) = 6; log(-1, 1) = -102; log(0, 1) = 1; log(1, 1) = 3; log(4, 1) = 6; log(5, 1) = 5
            log(6, 1) = -102
            log(7, 1) = -102; log(2147483647, 1) = -102; log(-2147483648, 1) = -102; status(12) = 5
            """);
    }

    /** Promise 25, "BAD: also no i-th.": where there is none; then the first. */
    private static void logOfNone() {
        Edge.holds("log of none", """
            log(0, 0) = -102; log(-1, 0) = -102; keeper(1) = 0; plan(0, 0) = -1; pass(1) = 1; log(0, 0) = 0
            log(0, 1) = 2
            log(1, 0) = -102; log(-1, 0) = -102; status(12) = 4
            """);
    }

    /** Promise 25, "HOUR (what 0), what it is (1; 1 to 6), the SHIP (2; NONE), the KEEPER who wrote it (3). BAD". */
    private static void logWhat() {
        Edge.holds("log's what", SIX_ENTRIES, """
            log(2, -1) = -102; log(2, 0) = 0; log(2, 1) = 4; log(2, 2) = 0; log(2, 3) = 1; log(2, 4) = -102
            log(4, 0) = 1; log(4, 1) = 6; log(4, 2) = 2; log(4, 3) = 0; log(4, 2147483647) = -102
            log(4, -2147483648) = -102
            log(6, -1) = -102; log(6, 4) = -102
            """, Edge.refusals(6, 0, 0, 0, 0));
    }

    /** Promise 25, "the SHIP (2; NONE) .. (NONE isn't refused.)": of LIT, DARK and SOUNDED; of ships 0, 1, 2. */
    private static void logShipNone() {
        Edge.holds("log's SHIP", SIX_ENTRIES,
            "log(0, 2) = -1; log(1, 2) = -1; log(2, 2) = 0; log(3, 2) = -1; log(4, 2) = 2\n",
            "log(5, 2) = 1\n", Edge.refusals(0, 0, 0, 0, 0));
    }

    /** Promise 25, "no i-th": of 400 entries the last is 399. */
    private static void logAtMost() {
        Edge.holds("log at most", "tell(0, 12) = 6; tell(1, 13) = 18\n", Edge.each(0, 5, k -> "keeper(0) = " + k),
            Edge.each(0, 23, hour -> "plan(" + hour + ", " + hour / 4 + ") = -1"), """
            pass(200) = 192; pass(200) = 191; log(382, 0) = 399; log(383, 0) = -102; pass(16) = 16; log(398, 0) = 415
            log(399, 0) = -102; pass(1) = 1; log(399, 0) = 416; log(400, 0) = -102; pass(1) = 1; log(400, 0) = -102
            log(399, 0) = 416; log(399, 1) = 2; log(0, 0) = 0; log(-1, 0) = -102
            """);
    }

    /** Promise 26, "of a sort (1 to 6; 0: all). BAD.": -1, 0, 1, 6, 7. */
    private static void loggedSorts() {
        Edge.holds("logged's sorts", SIX_ENTRIES, """
            logged(-1) = -102; logged(0) = 6; logged(1) = 1; logged(2) = 1; logged(3) = 1; logged(4) = 1; logged(5) = 1
            logged(6) = 1; logged(7) = -102; logged(2147483647) = -102; logged(-2147483648) = -102; status(12) = 4
            """);
    }

    /** Promise 26, "How many entries of THE LOG are of a sort": none, then each as it comes. */
    private static void loggedCounts() {
        Edge.holds("logged", Edge.each(0, 6, sort -> "logged(" + sort + ") = 0"), """
            keeper(1) = 0; plan(4, 0) = -1; plan(5, 0) = -1; plan(6, 0) = -1; ship(3, 6) = 0; ship(3, 5) = 1
            pass(4) = 4
            logged(0) = 0; pass(1) = 1; logged(0) = 1; logged(2) = 1; logged(5) = 0; pass(1) = 1; logged(0) = 3
            logged(2) = 2
            logged(5) = 1; pass(1) = 0; logged(0) = 4; logged(2) = 2; logged(4) = 1; pass(1) = 0; logged(0) = 4
            logged(1) = 0
            """);
    }

    /** Promise 27, "The i-th of DIFFERENCES .. BAD: also no i-th.": -1, the first, the last, one more. */
    private static void differencePlace() {
        Edge.holds("difference's place", TWO_BOYS, "pass(14) = 13; difference(-1, 0) = -102; difference(0, 0) = 6\n",
            """
            difference(1, 0) = 13; difference(2, 0) = -102; difference(3, 0) = -102; difference(2147483647, 0) = -102
            difference(-2147483648, 0) = -102; status(12) = 5
            """);
    }

    /** Promise 27, "HOUR (what 0), the first SHIP BY RANK .. (1), the KEEPER who wrote it (2). BAD": -1, 0, 2, 3. */
    private static void differenceWhat() {
        Edge.holds("difference's what", TWO_BOYS, "pass(14) = 13\n", """
            difference(0, -1) = -102; difference(0, 0) = 6; difference(0, 1) = 3; difference(0, 2) = 0
            difference(0, 3) = -102
            difference(1, -1) = -102; difference(1, 0) = 13; difference(1, 1) = 4; difference(1, 2) = 1
            difference(1, 3) = -102
            difference(0, 2147483647) = -102; difference(0, -2147483648) = -102; difference(2, 3) = -102; status(12) = 7
            """);
    }

    /** Promise 27, "BAD: also no i-th.": where there is none; then the first. */
    private static void differenceOfNone() {
        Edge.holds("difference of none", TWO_BOYS, """
            difference(0, 0) = -102; pass(6) = 6; difference(0, 0) = -102; difference(0, 1) = -102
            difference(0, 2) = -102
            pass(1) = 1; difference(0, 0) = 6; difference(1, 0) = -102; pass(6) = 5; difference(1, 0) = -102
            pass(1) = 1
            difference(1, 0) = 13; difference(-1, 0) = -102; status(12) = 7
            """);
    }

    /** Promise 27, "the first SHIP BY RANK by which it is one": the greater KIND, of one KIND the lesser number. */
    private static void differenceByRank() {
        Edge.holds("difference BY RANK", TWO_BOYS, "ship(7, 6) = 7; ship(7, 6) = 8; ship(6, 13) = 9; pass(14) = 13\n",
            """
            difference(0, 1) = 7; difference(1, 1) = 9; shipAt(6, 0) = 7; shipAt(6, 1) = 8; shipAt(13, 0) = 9
            shipAt(13, 1) = 4
            """);
    }

    /** Promise 27, "the first SHIP BY RANK": one FISHER alone, ship 0; those of the HOURS beside count for nothing. */
    private static void differenceOfTheLeastKind() {
        Edge.holds("difference of the least KIND", "keeper(2) = 0; tell(0, 12) = 6\n", Edge.watch(0, 0, 6), """
            ship(3, 6) = 0; ship(7, 5) = 1; ship(7, 7) = 2; pass(8) = 8; differences(-1) = 1; difference(0, 0) = 6
            difference(0, 1) = 0; difference(0, 2) = 0; difference(1, 0) = -102
            """);
    }

    /** Promise 27, "The i-th of DIFFERENCES": the first entry of all, of a BOY who is TIRED by day, and the next. */
    private static void differenceOfTheFirstEntry() {
        Edge.holds("difference of the first entry", "keeper(2) = 0; tell(0, 0) = 6\n", Edge.watch(0, 12, 21), """
            ship(3, 18) = 0; ship(3, 19) = 1; ship(3, 21) = 2; pass(18) = 0; status(7) = 0; keeperOf(0, 1) = 6
            differences(-1) = 0; pass(1) = 1; log(0, 1) = 1; differences(-1) = 1; differences(0) = 1
            difference(0, 0) = 18; difference(0, 1) = 0; difference(0, 2) = 0; pass(3) = 3; log(1, 1) = 2
            differences(-1) = 2; difference(0, 0) = 18; difference(1, 0) = 21; difference(1, 1) = 2
            """);
    }

    /**
     * Promise 27, "The i-th of DIFFERENCES": by the last entry that THE LOG can hold, and none by one that is lost. A BOY
     * has the hours 2 to 8 and sleeps in the last of them, so that HOURS 392, 416 and 440 are FILLED IN.
     */
    private static void differenceOfTheLastEntry() {
        Edge.holds("difference of the last entry", Edge.each(0, 4, k -> "keeper(0) = " + k), """
            keeper(2) = 5; tell(0, 12) = 6; tell(1, 13) = 18; ship(3, 392) = 0; ship(3, 416) = 1; ship(3, 440) = 2
            """, Edge.watch(0, 0, 1), Edge.watch(5, 2, 8), Edge.watch(1, 9, 12), Edge.watch(2, 13, 16),
            Edge.watch(3, 17, 20), Edge.watch(4, 21, 23), """
            pass(200) = 192; pass(192) = 184; differences(-1) = 0; pass(1) = 1; differences(-1) = 1; pass(23) = 22
            status(7) = 399; differences(-1) = 1; pass(1) = 1; status(7) = 400; log(399, 0) = 416; log(399, 1) = 1
            log(399, 3) = 5; differences(-1) = 2; difference(0, 0) = 392; difference(1, 0) = 416; difference(1, 1) = 1
            pass(24) = 23; shipOf(2, 3) = 0; keeperOf(5, 5) = 19; differences(-1) = 2; differences(5) = 2
            difference(1, 0) = 416; difference(2, 0) = -102
            """);
    }

    /** Promise 28, "with entries of a KEEPER (NONE: of all). BAD.": -2, NONE, the first, the last, one more. */
    private static void differencesOfWhom() {
        Edge.holds("differences of whom", TWO_BOYS, "pass(14) = 13\n", """
            differences(-2) = -102; differences(-1) = 2; differences(0) = 1; differences(1) = 1; differences(2) = 0
            differences(3) = -102; differences(2147483647) = -102; differences(-2147483648) = -102; keeper(0) = 3
            differences(3) = 0; differences(4) = -102; status(12) = 5
            """);
    }

    /** Promise 28, "How many DIFFERENCES there are": none, one, two, as their HOURS pass. */
    private static void differencesOfEach() {
        Edge.holds("differences of each", TWO_BOYS, """
            differences(-1) = 0; pass(6) = 6; differences(-1) = 0; differences(0) = 0; pass(1) = 1; differences(-1) = 1
            differences(0) = 1; differences(1) = 0; pass(6) = 5; differences(-1) = 1; pass(1) = 1; differences(-1) = 2
            differences(0) = 1; differences(1) = 1; pass(10) = 10; differences(-1) = 2; differences(2) = 0
            """);
    }

    /** Promise 28, "BAD": where there are no KEEPERS NONE alone may be. */
    private static void differencesOfNoKeepers() {
        Edge.holds("differences of no KEEPERS", """
            differences(-1) = 0; differences(0) = -102; differences(-2) = -102; keeper(0) = 0; differences(0) = 0
            differences(1) = -102; status(12) = 3
            """);
    }

    /** Promise 37, "from its i-th on .. BAD i (below 0)": -1, the first, the last, behind the last, the farthest. */
    private static void judgePlace() {
        Edge.holds("judge's place", SIX_ENTRIES, TOLD, Edge.ints(1, 5, 1), """
            judge(-1, 0, 6) = -102; judge(0, 0, 6) = -1; judge(1, 0, 6) = 0; judge(4, 1, 1) = 0; judge(5, 1, 1) = -1
            judge(6, 1, 1) = 0; judge(7, 1, 1) = 0; judge(6, 1, 0) = -1; judge(-1, 1, 0) = -102
            judge(2147483647, 1, 0) = -1
            judge(2147483647, 1, 1) = 0; judge(2147483647, 0, 6) = 0; judge(-2147483648, 1, 1) = -102; status(12) = 3
            """);
    }

    /** Promise 37, "the first n twos (0 to 20)": -1, 0, 1, as many as are so, one that isn't. */
    private static void judgeHowMany() {
        Edge.holds("judge's n", SIX_ENTRIES, TOLD, """
            judge(0, 0, -1) = -102; judge(0, 0, 0) = -1; judge(0, 0, 1) = -1; judge(0, 0, 5) = -1; judge(0, 0, 6) = -1
            set(0, 10, 4) = 1; judge(0, 0, 5) = -1; judge(0, 0, 6) = 5; set(0, 0, 2) = 1; judge(0, 0, 0) = -1
            judge(0, 0, 1) = 0
            judge(0, 0, 2147483647) = -102; judge(0, 0, -2147483648) = -102; status(12) = 3
            """);
    }

    /** Promise 37, "the first n twos (0 to 20)": 19, 20, 21. */
    private static void judgeMostTwos() {
        Edge.holds("judge's most twos", "keeper(0) = 0; keeper(0) = 1; tell(0, 12) = 6; tell(1, 13) = 18\n",
            Edge.watch(0, 0, 11),
            Edge.watch(1, 13, 23), "pass(24) = 23; status(7) = 23; row(0, 0, 40) = 1\n",
            Edge.each(0, 39, i -> "set(0, " + i + ", " + (i % 2 == 0 ? 2 : -1) + ") = 1"), """
            judge(0, 0, 19) = -1; judge(0, 0, 20) = -1; judge(0, 0, 21) = -102; judge(3, 0, 20) = -1
            judge(4, 0, 20) = 19
            judge(4, 0, 19) = -1; set(0, 39, 0) = 1; judge(0, 0, 20) = 19; judge(0, 0, 19) = -1; set(0, 36, 1) = 1
            judge(0, 0, 20) = 18; judge(0, 0, 19) = 18; judge(0, 0, 18) = -1; status(12) = 1
            """);
    }

    /** Promise 37, "BAD: fewer elements.": one fewer than two each, as many, one more. */
    private static void judgeElements() {
        Edge.holds("judge's elements", SIX_ENTRIES, TOLD, """
            judge(0, 0, 7) = -102; judge(0, 0, 6) = -1; row(1, 2, 0) = 1; judge(0, 1, 0) = -1; judge(0, 1, 1) = -102
            row(1, 2, 1) = 1; judge(0, 1, 0) = -1; judge(0, 1, 1) = -102; row(1, 2, 2) = 1; judge(0, 1, 1) = 0
            judge(0, 1, 2) = -102
            row(1, 2, 3) = 1; judge(0, 1, 1) = 0; judge(0, 1, 2) = -102; row(1, 2, 39) = 1; judge(0, 1, 19) = 0
            judge(0, 1, 20) = -102; row(1, 2, 40) = 1; judge(0, 1, 20) = 0; status(12) = 6
            """);
    }

    /** Promise 37, "the first that isn't so; NONE.": by what it is, by the SHIP, the first of several. */
    private static void judgeFirstThatIsNot() {
        Edge.holds("the first that isn't so", SIX_ENTRIES, TOLD, """
            set(0, 1, 0) = 1; judge(0, 0, 6) = 0; set(0, 1, -1) = 1; set(0, 11, 2) = 1; judge(0, 0, 6) = 5
            set(0, 4, 5) = 1; judge(0, 0, 6) = 2; set(0, 4, 4) = 1; judge(0, 0, 6) = 5; set(0, 9, 3) = 1
            judge(0, 0, 6) = 4
            set(0, 7, -2) = 1; judge(0, 0, 6) = 3; set(0, 6, 1) = 1; judge(0, 0, 6) = 3; judge(0, 0, 3) = -1
            judge(0, 0, 4) = 3
            """, Edge.refusals(0, 0, 0, 0, 0));
    }

    /** Promise 37, "as THE LOG has them": behind its last entry nothing is so, not even what is told as 0 or NONE. */
    private static void judgeBehindTheLast() {
        Edge.holds("judge behind the last", SIX_ENTRIES, Edge.ints(1, 6, 2, 5, 1, -1, -1, 0, 0), """
            judge(4, 1, 2) = -1; judge(4, 1, 3) = 2; judge(4, 1, 4) = 2; set(1, 4, 0) = 1; judge(4, 1, 3) = 2
            set(1, 5, 0) = 1
            judge(4, 1, 3) = 2; judge(4, 1, 2) = -1
            """);
    }

    /** Promise 37, "the first that isn't so; NONE.": of no entries at all. */
    private static void judgeOfNoEntries() {
        Edge.holds("judge of no entries", Edge.ints(0, 0, 0, -1, -1), """
            judge(0, 0, 0) = -1; judge(0, 0, 1) = 0; judge(0, 0, 2) = 0; judge(1, 0, 0) = -1; judge(1, 0, 1) = 0
            judge(-1, 0, 0) = -102
            """);
    }

    /** Promise 37, "of the ROW in SHELF s": of each SORT; what is told as a long must be the whole of it. */
    private static void judgeOfSorts() {
        Edge.holds("judge of SORTS", SIX_ENTRIES, Edge.each(0, 4, sort -> "row(" + sort + ", " + sort + ", 2) = 1"),
            Edge.each(0, 4, sort -> "set(" + sort + ", 0, 1) = 1"),
            Edge.each(0, 4, sort -> "set(" + sort + ", 1, -1) = 1"), """
            judge(0, 0, 1) = -1; judge(0, 1, 1) = -1; judge(0, 2, 1) = -1; judge(0, 3, 1) = -1; element(4, 1) = 1
            judge(0, 4, 1) = 0
            set(3, 0, 4294967297) = 1; judge(0, 3, 1) = 0; set(3, 0, 1) = 1; set(3, 1, 4294967295) = 1
            judge(0, 3, 1) = 0
            set(3, 1, -1) = 1; judge(0, 3, 1) = -1; set(2, 0, 4294967297) = 1; judge(0, 2, 1) = -1
            """, Edge.refusals(0, 0, 0, 0, 0));
    }

    /** Promise 37, "BAD i (below 0), SHELF, n; OTHER; NOTHING; BAD: fewer elements. (NONE isn't refused.)". */
    private static void judgeRefused() {
        Edge.holds("judge refused", "ship(3, 5) = 0; show(0, 0) = 1; row(2, 2, 3) = 1; row(7, 2, 3) = 1\n", """
            judge(-1, 0, 1) = -102; judge(-1, 1, 1) = -102; judge(0, -1, 1) = -102; judge(0, 8, 1) = -102
            judge(0, 0, -1) = -102
            judge(0, 0, 21) = -102; judge(0, 1, -1) = -102; judge(0, 1, 21) = -102; judge(0, 2, 21) = -102
            judge(0, 0, 0) = -103; judge(0, 0, 20) = -103; judge(0, 1, 0) = -104; judge(0, 1, 20) = -104
            judge(0, 2, 2) = -102
            judge(0, 2, 1) = 0; judge(0, 7, 0) = -1
            """, Edge.refusals(10, 2, 2, 0, 0));
    }
}
