/** The edges that promises 30 to 36 name, a sentence or a part of one each; Edge looks that thoughts change nothing. */
public final class EdgeThoughtTest {
    /**
     * A BOY on hours 0 to 7 of a long night: OIL for hours 0 to 4, COAL for the FOG of 0 and 1 but not of 2, ASLEEP at 6,
     * a STORM at 7.
     */
    private static final String LONG_NIGHT = Edge.sky("f3 c4 s1 c9",
    4) + "keeper(2) = 0; tell(0, 12) = 6; tell(3, 5) = 0\n"
        + Edge.watch(0, 0, 7) + """
        tell(4, 2) = 0; ship(5, 0) = 0; ship(5, 2) = 1; ship(3, 5) = 2; ship(5, 7) = 3; ship(3, 7) = 4; ship(4, 8) = 5
        """;
    /** A HEAD on all dark hours, with OIL enough. */
    private static final String LIT_NIGHTS = "keeper(0) = 0; tell(3, 500) = 0\n" + Edge.watch(0, 0, 5) + Edge.watch(0,
    18, 23);

    public static void main(String[] args) {
        wouldHours();
        wouldMostHours();
        wouldWhat();
        wouldOfEach();
        wouldAsItPasses();
        wouldOfThoseHours();
        wouldWithTheBoat();
        failsAtOnce();
        failsAtDusk();
        failsInTheLastHour();
        failsInTheHourBehind();
        failsUntended();
        comesAtOnce();
        comesByDay();
        comesInTheLastHour();
        comesNever();
        oilHours();
        oilMostHours();
        oilOfNone();
        oilOfTheWick();
        oilIsTheLeast();
        oilWithTheBoat();
        oilOfAllHours();
        betterHour();
        betterHours();
        betterOfSeveralTheLeast();
        betterThanWhoIsThere();
        betterIsNobody();
        betterOfNoKeepers();
        otherHours();
        otherTells();
        otherShelf();
        otherElements();
        otherKeepers();
        otherRefused();
        idleHours();
        idleBits();
        idleAsMany();
        idleOfNoKeepers();
        Check.end();
    }

    private static String would(int n, int... due) {
        return Edge.each(0, due.length - 1, what -> "would(" + n + ", " + what + ") = " + due[what]);
    }

    /** Promise 30, "In thought n HOURS (0 to 200) pass .. BAD.": -1, 0, 1, 2. */
    private static void wouldHours() {
        Edge.holds("would's HOURS", """
            would(-2147483648, 0) = -102; would(-1, 0) = -102; would(0, 0) = 0; would(1, 0) = 1; would(2, 0) = 2
            status(0) = 0
            status(8) = 0; status(12) = 2
            """);
    }

    /** Promise 30, "In thought n HOURS (0 to 200) pass .. BAD.": 199, 200, 201. */
    private static void wouldMostHours() {
        Edge.holds("would's most HOURS", """
            tell(0, 8) = 6; would(199, 0) = 119; would(200, 0) = 120; would(201, 0) = -102; would(2147483647, 0) = -102
            pass(199) = 119; pass(1) = 1; would(201, 5) = -102; status(12) = 3
            """);
    }

    /** Promise 30, "(what 0), OIL then (1), .. how often somebody is ASLEEP on WATCH (5). BAD.": -1, 0, 5, 6. */
    private static void wouldWhat() {
        Edge.holds("would's what", LONG_NIGHT, "would(8, -1) = -102\n", would(8, 3, 0, 0, 2, 2, 1), """
            would(8, 6) = -102; would(8, 2147483647) = -102; would(8, -2147483648) = -102; would(0, -1) = -102
            would(0, 6) = -102
            status(12) = 6
            """);
    }

    /** Promise 30, "how many are DARK, but not LIT (what 0), OIL then (1)" and the rest: as OIL, COAL, strength run out. */
    private static void wouldOfEach() {
        Edge.holds("would of each", LONG_NIGHT, would(0, 0, 5, 2, 0, 0, 0), would(1, 0, 4, 1, 0, 0, 0),
            would(2, 0, 3, 0, 0, 0, 0),
            would(3, 0, 2, 0, 1, 0, 0), would(4, 0, 1, 0, 1, 0, 0), would(5, 0, 0, 0, 1, 0, 0),
            would(6, 1, 0, 0, 2, 0, 0),
            would(7, 2, 0, 0, 2, 0, 1), would(8, 3, 0, 0, 2, 2, 1), would(9, 4, 0, 0, 2, 2, 1));
    }

    /** Promise 30, "In thought n HOURS (0 to 200) pass": what then really comes of them. */
    private static void wouldAsItPasses() {
        Edge.holds("would, and pass", LONG_NIGHT, would(8, 3, 0, 0, 2, 2, 1), """
            shipOf(1, 2) = -1; pass(8) = 3; status(1) = 0; status(2) = 0; many(0, 1) = 2; many(0, 2) = 2
            keeperOf(0, 5) = 1
            shipOf(5, 2) = -1; status(0) = 8
            """);
    }

    /** Promise 30, "MISSES (3), WRECKS (4) of them": none of the HOURS that have passed, none behind the n-th. */
    private static void wouldOfThoseHours() {
        Edge.holds("would of those HOURS", LONG_NIGHT, "pass(3) = 0; many(0, 1) = 1\n", would(0, 0, 2, 0, 0, 0, 0),
            would(2, 0, 0, 0, 0, 0, 0), would(3, 1, 0, 0, 1, 0, 0), would(4, 2, 0, 0, 1, 0, 1),
            would(5, 3, 0, 0, 1, 2, 1),
            "pass(4) = 2; many(0, 1) = 2; keeperOf(0, 5) = 1\n", would(1, 1, 0, 0, 0, 2, 0), "pass(1) = 1\n",
            would(1, 1, 0, 0, 0, 0, 0));
    }

    /** Promise 30, "OIL then (1), COAL (2)": with THE BOAT that comes in the last of n HOURS, or in the next. */
    private static void wouldWithTheBoat() {
        Edge.holds("would with THE BOAT",
            "boat(0, 6) = -1; boat(2, 9999) = 0; boat(3, 40) = 0; tell(3, 1) = 0; tell(4, 9959) = 0\n",
            would(6, 6, 1, 9959), would(7, 6, 9999, 9999), would(8, 6, 9999, 9999),
            "status(1) = 1; status(9) = 6; status(11) = 0");
    }

    /** Promise 31, "the first HOUR from now on (of 200)": the HOUR that is now, the next. */
    private static void failsAtOnce() {
        Edge.holds("fails at once", """
            fails() = 0; keeper(0) = 0; plan(0, 0) = -1; tell(3, 1) = 0; fails() = 1; tell(3, 2) = 1; fails() = 2
            tell(3, 0) = 2
            fails() = 0; pass(1) = 1; fails() = 1; pass(5) = 5; fails() = 18
            """);
    }

    /** Promise 31, "that is DARK, but not LIT": by day none, at DUSK the first. */
    private static void failsAtDusk() {
        Edge.holds("fails at DUSK", """
            pass(6) = 6; fails() = 18; pass(11) = 0; fails() = 18; pass(1) = 0; fails() = 18; pass(1) = 1; fails() = 19
            pass(5) = 5; fails() = 24; pass(5) = 5; fails() = 29; pass(1) = 1; fails() = 42
            """);
    }

    /** Promise 31, "(of 200) .. NONE. (NONE isn't refused.)": the 199th HOUR, the 200th, none. */
    private static void failsInTheLastHour() {
        Edge.holds("fails in the last HOUR", "keeper(0) = 0; tell(0, 8) = 6; tell(1, 24) = 18\n", Edge.watch(0, 0, 7),
            """
            tell(3, 70) = 0; fails() = 198; tell(3, 71) = 70; fails() = 199; tell(3, 72) = 71; fails() = -1
            tell(3, 73) = 72
            fails() = -1
            """, Edge.refusals(0, 0, 0, 0, 0));
    }

    /** Promise 31, "from now on (of 200)": the HOUR behind the 200th is found when HOUR is 1 more. */
    private static void failsInTheHourBehind() {
        Edge.holds("fails in the HOUR behind", "keeper(0) = 0; tell(0, 9) = 6; tell(1, 24) = 18\n", Edge.watch(0, 0, 8),
            """
            tell(3, 79) = 0; fails() = 199; tell(3, 80) = 79; fails() = -1; pass(1) = 0; fails() = 200; status(1) = 79
            tell(3, 80) = 79; fails() = -1
            """, Edge.refusals(0, 0, 0, 0, 0));
    }

    /** Promise 31, "DARK, but not LIT": the LAMP that stays LIT an HOUR untended, in that HOUR and in the next. */
    private static void failsUntended() {
        Edge.holds("fails untended", """
            keeper(0) = 0; plan(0, 0) = -1; tell(3, 9) = 0; fails() = 2; pass(1) = 0; fails() = 2; pass(1) = 0
            status(4) = 1
            fails() = 2; pass(1) = 1; fails() = 3
            """);
    }

    /** Promise 32, "the HOUR in which THE BOAT would COME next": the HOUR that is now, the next. */
    private static void comesAtOnce() {
        Edge.holds("comes at once", """
            comes() = -1; pass(6) = 6; boat(0, 6) = -1; comes() = 6; boat(0, 7) = 6; comes() = 7; boat(0, 8) = 7
            comes() = 8
            pass(2) = 0; comes() = 8; boat(1, 2) = 168; pass(1) = 0; comes() = 10; status(11) = 1; boat(0, -1) = 10
            comes() = -1
            """, Edge.refusals(0, 0, 0, 0, 0));
    }

    /** Promise 32, "would COME": beside DAWN and DUSK, and beside a STORM. */
    private static void comesByDay() {
        Edge.holds("comes by day", """
            boat(0, 0) = -1; comes() = 6; boat(0, 5) = 0; comes() = 6; boat(0, 6) = 5; comes() = 6; boat(0, 7) = 6
            comes() = 7
            boat(0, 17) = 7; comes() = 17; boat(0, 18) = 17; comes() = 30; boat(0, 29) = 18; comes() = 30
            boat(0, 30) = 29
            comes() = 30
            """, Edge.sky("f9 s2 c13", 3), """
            boat(0, 8) = 30; comes() = 8; boat(0, 9) = 8; comes() = 11; boat(0, 10) = 9; comes() = 11; boat(0, 11) = 10
            comes() = 11
            boat(0, 12) = 11; comes() = 12
            """);
    }

    /** Promise 32, "(of 400); NONE. (NONE isn't refused.)": the 399th HOUR, the 400th, the next. */
    private static void comesInTheLastHour() {
        Edge.holds("comes in the last HOUR", """
            boat(0, 398) = -1; comes() = 398; boat(0, 399) = 398; comes() = 399; boat(0, 400) = 399; comes() = -1
            boat(0, 401) = 400
            comes() = -1; pass(1) = 1; comes() = -1; boat(0, 400) = 401; comes() = 400; boat(0, 401) = 400; comes() = -1
            """, Edge.refusals(0, 0, 0, 0, 0));
    }

    /** Promise 32, "NONE": not DUE, or always a STORM by day. */
    private static void comesNever() {
        Edge.holds("comes never", "comes() = -1; boat(0, 6) = -1; comes() = 6\n", Edge.sky("s1", 1), "comes() = -1\n",
            Edge.sky("s18 c6", 2), "comes() = -1\n", Edge.sky("s17 c7", 2),
            "comes() = 17; boat(0, -1) = 6; comes() = -1\n",
            Edge.refusals(0, 0, 0, 0, 0));
    }

    /** Promise 33, "of n HOURS (0 to 200) .. BAD.": -1, 0, 1, 2. */
    private static void oilHours() {
        Edge.holds("oil's HOURS", LIT_NIGHTS, """
            oil(-2147483648) = -102; oil(-1) = -102; oil(0) = 0; oil(1) = 1; oil(2) = 2; oil(6) = 6; oil(7) = 6
            oil(18) = 6
            oil(19) = 7; oil(24) = 12; status(1) = 500; status(12) = 2
            """);
    }

    /** Promise 33, "of n HOURS (0 to 200) .. BAD.": 199, 200, 201. */
    private static void oilMostHours() {
        Edge.holds("oil's most HOURS", "keeper(0) = 0; tell(0, 8) = 6; tell(1, 24) = 18\n", Edge.watch(0, 0, 7), """
            oil(198) = 70; oil(199) = 71; oil(200) = 72; oil(201) = -102; oil(2147483647) = -102; tell(2, 4) = 1
            oil(200) = 288
            oil(199) = 284; status(12) = 2
            """);
    }

    /** Promise 33, "The least OIL (0 to 9999)": 0, where none makes a difference: nobody there, no dark, no HOURS. */
    private static void oilOfNone() {
        Edge.holds("oil of none", """
            oil(0) = 0; oil(200) = 0; keeper(0) = 0; plan(6, 0) = -1; oil(200) = 0; plan(5, 0) = -1; oil(5) = 0
            oil(6) = 1
            tell(0, 5) = 6; oil(24) = 0
            """);
    }

    /** Promise 33, "The least OIL": whole WICKS, with the HOUR that the LAMP stays LIT untended. */
    private static void oilOfTheWick() {
        Edge.holds("oil of the WICK", """
            keeper(0) = 0; plan(0, 0) = -1; plan(4, 0) = -1; tell(2, 3) = 1; oil(1) = 3; oil(2) = 6; oil(3) = 6
            oil(4) = 6
            oil(5) = 9; oil(6) = 12; oil(7) = 12; tell(2, 4) = 3; oil(6) = 16; tell(2, 1) = 4; oil(6) = 4
            """);
    }

    /** Promise 33, "with which as few of n HOURS .. were DARK, but not LIT, as with 9999": one less makes more so. */
    private static void oilIsTheLeast() {
        Edge.holds("the least oil", """
            keeper(0) = 0; plan(0, 0) = -1; plan(4, 0) = -1; tell(2, 3) = 1; oil(24) = 12; tell(3, 9999) = 0
            would(24, 0) = 8
            oil(24) = 12; tell(3, 13) = 9999; would(24, 0) = 8; tell(3, 12) = 13; would(24, 0) = 8; tell(3, 11) = 12
            would(24, 0) = 9; oil(24) = 12; pass(1) = 0; oil(23) = 9; status(1) = 8
            """);
    }

    /** Promise 33, "The least OIL": only what must be there ahead of THE BOAT, if it brings enough, one less, none. */
    private static void oilWithTheBoat() {
        Edge.holds("oil with THE BOAT", LIT_NIGHTS, """
            oil(24) = 12; boat(0, 6) = -1; oil(24) = 12; boat(2, 5) = 0; oil(24) = 7; boat(2, 6) = 5; oil(24) = 6
            boat(2, 7) = 6
            oil(24) = 6; boat(2, 9999) = 7; oil(24) = 6; boat(0, 18) = 6; oil(24) = 12; oil(48) = 18
            """);
    }

    /** Promise 33, "The least OIL (0 to 9999)": the most that can be needed, all dark hours TENDED with the WICK at 4. */
    private static void oilOfAllHours() {
        Edge.holds("oil of all HOURS", "tell(0, 12) = 6; tell(1, 13) = 18; tell(2, 4) = 1\n",
            Edge.each(0, 5, k -> "keeper(0) = " + k), Edge.each(0, 23, hour -> "plan(" + hour + ", " + hour / 4 + ") = -1"),
            "oil(198) = 760; oil(199) = 764; oil(200) = 768; oil(201) = -102; tell(3, 768) = 0; would(200, 0) = 0\n",
            "tell(3, 767) = 768; would(200, 0) = 1; tell(3, 0) = 767; would(200, 0) = 192; oil(200) = 768");
    }

    /** Promise 34, "for an hour .. BAD": -1, 0, 1, 22, 23, 24. */
    private static void betterHour() {
        Edge.holds("better's hour", "keeper(0) = 0; tell(3, 99) = 0\n", """
            better(-2147483648, 24) = -102; better(-1, 24) = -102; better(0, 24) = 0; better(1, 24) = 0
            better(6, 24) = -1
            better(17, 24) = -1; better(18, 24) = 0; better(22, 24) = 0; better(23, 24) = 0; better(24, 24) = -102
            better(2147483647, 24) = -102; plan(0, 0) = -1; better(0, 24) = -1; status(12) = 4
            """);
    }

    /** Promise 34, "of n HOURS (0 to 200) .. BAD": -1, 0, 1, and 199, 200, 201; only those HOURS count. */
    private static void betterHours() {
        Edge.holds("better's HOURS", "keeper(0) = 0; tell(3, 99) = 0\n", """
            better(0, -1) = -102; better(0, 0) = -1; better(0, 1) = 0; better(1, 1) = -1; better(1, 2) = 0
            better(23, 23) = -1
            better(23, 24) = 0; better(0, 199) = 0; better(0, 200) = 0; better(0, 201) = -102
            better(0, 2147483647) = -102
            tell(0, 8) = 6; pass(1) = 1; better(8, 200) = -1; pass(23) = 13; better(7, 7) = -1; better(7, 8) = 0
            status(12) = 3
            """);
    }

    /** Promise 34, "of several the least": two who are as good, one who isn't ahead of them. */
    private static void betterOfSeveralTheLeast() {
        Edge.holds("of several the least",
            "keeper(2) = 0; tell(3, 99) = 0; better(0, 24) = 0; keeper(1) = 1; keeper(0) = 2\n", """
            better(0, 24) = 0; better(23, 24) = 0; plan(23, 2) = -1; better(22, 24) = 0; better(23, 24) = -1
            """);
        Edge.holds("of several the least who is awake",
            "keeper(2) = 0; keeper(1) = 1; keeper(0) = 2; tell(3, 99) = 0\n",
            Edge.watch(0, 12, 17), """
            pass(18) = 6; keeperOf(0, 1) = 6; better(18, 1) = 1; plan(18, 0) = -1; better(18, 1) = 1; plan(18, 1) = 0
            better(18, 1) = -1; plan(18, 2) = 1; better(18, 1) = -1; plan(18, -1) = 2; better(18, 1) = 1
            """);
    }

    /**
     * Promise 34, "NONE: as good as the best, or better, is who (or nobody) is there now": nobody, the best, as good.
     */
    private static void betterThanWhoIsThere() {
        Edge.holds("as good as the best", "keeper(0) = 0; keeper(0) = 1; tell(3, 99) = 0\n", """
            better(0, 24) = 0; plan(0, 1) = -1; better(0, 24) = -1; plan(0, 0) = 1; better(0, 24) = -1
            better(12, 24) = -1
            better(1, 2) = -1; better(1, 3) = 0; plan(2, 0) = -1; better(1, 3) = -1; tell(3, 0) = 99; better(1, 24) = -1
            """, Edge.refusals(0, 0, 0, 0, 0));
    }

    /**
     * Promise 34, "or better, is who (or nobody) is there now": in a STORM a BOY who has the hours 15, 16 and on from 18
     * sleeps at DUSK if he has 17 too.
     */
    private static void betterIsNobody() {
        Edge.holds("nobody is better", Edge.sky("s9", 1), "keeper(2) = 0; tell(3, 99) = 0; tell(0, 0) = 6\n",
            Edge.watch(0, 15, 16),
            Edge.watch(0, 18, 23), """
            would(24, 0) = 0; better(17, 24) = -1; plan(17, 0) = -1; would(24, 0) = 1; better(17, 24) = -1
            keeper(0) = 1
            better(17, 24) = 1; better(18, 24) = 1; plan(17, -1) = 0; better(17, 24) = -1; better(18, 24) = -1
            """, Edge.refusals(0, 0, 0, 0, 0));
    }

    /** Promise 34, "BAD; STUCK: no KEEPERS.": none, one. */
    private static void betterOfNoKeepers() {
        Edge.holds("better of no KEEPERS", """
            better(0, 24) = -105; better(23, 0) = -105; better(24, 24) = -102; better(-1, 24) = -102
            better(0, 201) = -102
            better(0, -1) = -102; keeper(0) = 0; better(0, 24) = -1; tell(3, 1) = 0; better(0, 24) = 0
            """, Edge.refusals(4, 0, 0, 2, 0));
    }

    /** Promise 35, "of n HOURS (0 to 200) .. BAD n": -1, 0, 1, and 199, 200, 201. */
    private static void otherHours() {
        Edge.holds("other's HOURS", LIT_NIGHTS, "row(0, 2, 24) = 1\n",
            Edge.each(0, 23, i -> "set(0, " + i + ", -1) = 1"), """
            other(0, -2147483648) = -102; other(0, -1) = -102; other(0, 0) = 0; other(0, 1) = 1; other(0, 2) = 2
            other(0, 6) = 6
            other(0, 7) = 6; other(0, 18) = 6; other(0, 19) = 7; other(0, 198) = 102; other(0, 199) = 102
            other(0, 200) = 102
            other(0, 201) = -102; other(0, 2147483647) = -102; keeperOf(0, 3) = 12; status(12) = 4
            """);
    }

    /** Promise 35, "By how many more": one more, none, one fewer, twelve fewer. */
    private static void otherTells() {
        Edge.holds("other tells", LIT_NIGHTS, "row(0, 2, 24) = 1\n", Edge.each(6, 17, i -> "set(0, " + i + ", -1) = 1"),
            """
            other(0, 24) = 0; set(0, 18, -1) = 1; other(0, 24) = 1; set(0, 1, -1) = 1; other(0, 24) = 1
            set(0, 2, -1) = 1
            other(0, 24) = 2; other(0, 200) = 17; plans(0) = 1; other(0, 24) = 0; set(0, 18, 0) = 1; other(0, 24) = -1
            """, Edge.leave(0, 3, 5), "plan(0, -1) = 0\n", Edge.leave(0, 19, 23), """
            would(24, 0) = 12; set(0, 1, 0) = 1; set(0, 2, 0) = 1; other(0, 24) = -12; keeperOf(0, 3) = 0
            """);
    }

    /** Promise 35, "SHELF": -1, 0, 7, 8. */
    private static void otherShelf() {
        Edge.holds("other's SHELF",
            "keeper(0) = 0; tell(3, 9) = 0; row(0, 0, 24) = 1; row(7, 0, 24) = 1; set(7, 0, -1) = 1\n", """
            other(-1, 1) = -102; other(0, 1) = -1; other(7, 1) = 0; other(8, 1) = -102; other(2147483647, 1) = -102
            other(-2147483648, 1) = -102; keeperOf(0, 3) = 0; status(12) = 4
            """);
    }

    /** Promise 35, "(as of plans())": 23, 24, 25 elements. */
    private static void otherElements() {
        Edge.holds("other's elements",
            "keeper(0) = 0; tell(3, 9) = 0; row(0, 2, 0) = 1; other(0, 1) = -102; row(0, 2, 23) = 1\n", """
            other(0, 1) = -102; row(0, 2, 24) = 1; other(0, 1) = -1; row(0, 2, 25) = 1; set(0, 24, 7) = 1
            other(0, 1) = -1
            row(0, 2, 40) = 1; set(0, 39, -5) = 1; other(0, 1) = -1; status(12) = 2
            """);
    }

    /**
     * Promise 35, "(as of plans())": -2, NONE, the first, the last KEEPER, one more, in the first element and the
     * last.
     */
    private static void otherKeepers() {
        Edge.holds("other's KEEPERS", "keeper(0) = 0; keeper(0) = 1; tell(3, 9) = 0; row(0, 3, 24) = 1\n", """
            set(0, 0, -2) = 1; other(0, 1) = -102; set(0, 0, -1) = 1; other(0, 1) = 0; set(0, 0, 0) = 1
            other(0, 1) = -1
            set(0, 0, 1) = 1; other(0, 1) = -1; set(0, 0, 2) = 1; other(0, 1) = -102; set(0, 0, 4294967296) = 1
            other(0, 1) = -102; set(0, 0, 0) = 1; set(0, 23, 2) = 1; other(0, 1) = -102; set(0, 23, -2) = 1
            other(0, 1) = -102
            set(0, 23, 1) = 1; other(0, 1) = -1; status(12) = 5
            """);
    }

    /** Promise 35, "BAD n, SHELF; OTHER; NOTHING; BAD.": each ahead of all that come behind it. */
    private static void otherRefused() {
        Edge.holds("other refused",
            "keeper(0) = 0; ship(3, 5) = 0; show(0, 0) = 1; row(2, 2, 23) = 1; row(3, 2, 24) = 1\n", """
            other(0, -1) = -102; other(0, 201) = -102; other(1, 201) = -102; other(8, 0) = -102; other(-1, 201) = -102
            other(0, 0) = -103; other(0, 200) = -103; other(1, 0) = -104; other(2, 0) = -102; set(3, 5, 1) = 1
            other(3, 0) = -102
            set(3, 5, 0) = 1; other(3, 0) = 0
            """, Edge.refusals(7, 2, 1, 0, 0));
    }

    /** Promise 36, "of n HOURS (0 to 200) .. BAD.": -1, 0, 1, and 199, 200, 201; only those HOURS count. */
    private static void idleHours() {
        Edge.holds("idle's HOURS", "keeper(0) = 0; keeper(0) = 1; keeper(0) = 2; tell(3, 500) = 0\n",
            Edge.watch(0, 0, 5),
            Edge.watch(1, 6, 17), Edge.watch(2, 18, 23), """
            idle(-2147483648) = -102; idle(-1) = -102; idle(0) = 7; idle(1) = 6; idle(2) = 6; idle(18) = 6; idle(19) = 2
            idle(24) = 2; idle(199) = 2; idle(200) = 2; idle(201) = -102; idle(2147483647) = -102; status(12) = 4
            keeperOf(0, 3) = 6; keeperOf(1, 3) = 12; keeperOf(2, 3) = 6
            """);
    }

    /** Promise 36, "KEEPERS (bits)": the first, the sixth; who isn't in THE PLAN; no bit beyond the last. */
    private static void idleBits() {
        Edge.holds("idle's bits", "keeper(0) = 0; tell(3, 500) = 0; idle(24) = 1; plan(0, 0) = -1; idle(24) = 0\n",
            Edge.each(1, 4, k -> "keeper(0) = " + k),
            "idle(24) = 30; idle(0) = 31; keeper(0) = 5; idle(0) = 63; idle(24) = 62\n",
            "plan(23, 5) = -1; idle(24) = 30; idle(23) = 62; plan(0, 5) = 0; idle(24) = 31; plan(0, -1) = 5; plan(23, 0) = 5\n",
            "idle(24) = 62");
    }

    /** Promise 36, "without whom .. fewer of n HOURS .., or as many": as many, one more. */
    private static void idleAsMany() {
        Edge.holds("idle, as many", "keeper(0) = 0; keeper(0) = 1; tell(3, 500) = 0\n", Edge.watch(0, 18, 19),
            "plan(20, 1) = -1; plan(21, 0) = -1; plan(22, 0) = -1; plan(23, 0) = -1\n", """
            idle(24) = 2; plan(20, 0) = 1; plan(21, 1) = 0; idle(24) = 2; plan(20, 1) = 0; idle(24) = 0; plan(21, 0) = 1
            idle(24) = 2; tell(3, 3) = 500; plan(20, 1) = 1; plan(21, 1) = 0; idle(24) = 3; tell(3, 4) = 3; idle(24) = 2
            tell(3, 5) = 4; idle(24) = 2; tell(3, 6) = 5; idle(24) = 0
            """);
    }

    /** Promise 36, "KEEPERS (bits)": of none, no bits. */
    private static void idleOfNoKeepers() {
        Edge.holds("idle of no KEEPERS",
            "idle(0) = 0; idle(200) = 0; idle(201) = -102; keeper(2) = 0; idle(0) = 1; idle(200) = 1\n",
            Edge.refusals(1, 0, 0, 0, 0));
    }
}
