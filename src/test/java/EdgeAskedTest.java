/** The edges that the introduction, the terms of "3. WHAT IS ASKED" and REFUSALS name. */
public final class EdgeAskedTest {
    /**
     * A BOY on all watches in the dark (but for 10 to 12): LIT to hour 5, he is ASLEEP at 6 while the LAMP burns on, at
     * 9, by day at 12, at 15 and 18; awake in the dark he enters DARK from 7 on, as the OIL is out.
     */
    private static final String SLEEPY = "keeper(2) = 0; tell(0, 10) = 6; tell(1, 13) = 18; tell(3, 7) = 0\n"
        + Edge.watch(0, 0, 23);

    public static void main(String[] args) {
        callsAtMost();
        nothingIsChanged();
        differencesOfLit();
        differencesNeedAShip();
        differencesOfDark();
        differencesByHours();
        inThoughtAsNow();
        dayOfOneHour();
        dayWithoutAShip();
        dayOfTheFirstAndTheLastKind();
        dayWithShipsAtMost();
        seedAtFirst();
        seedWraps();
        drawHasNoSign();
        shelvesAtFirst();
        rowSorts();
        rowSizes();
        rowAtFirst();
        lowestBitsOfBytes();
        lowestBitsOfShorts();
        lowestBitsOfInts();
        lowestBitsOfLongs();
        lowestBitsOfBooleans();
        refusalsAreCounted();
        refusalsByTheFirst();
        refusalBad();
        refusalOther();
        refusalNothing();
        refusalStuck();
        refusalFull();
        Check.end();
    }

    /**
     * Introduction, "An object is used for at most 512 calls after it has been made": the last of them still counts.
     */
    private static void callsAtMost() {
        Edge.holds("512 calls", Edge.each(1, 510, n -> "seed(" + (n + 1) + ") = " + n),
            "status(18) = 511; seed(7) = 511");
        Edge.holds("512 calls, the last refused", Edge.times(510, "pass(0) = 0"), "pass(201) = -102; status(12) = 1");
    }

    /**
     * Terms 3, "WHAT IS ASKED (nothing is changed)": each question twice; Edge looks for what it could have changed.
     */
    private static void nothingIsChanged() {
        Edge.holds("nothing is changed",
            "keeper(0) = 0; tell(3, 10) = 0; ship(3, 0) = 0; ship(3, 22) = 1; boat(0, 20) = -1\n",
            Edge.watch(0, 0, 5), "row(0, 0, 24) = 1; show(1, 1) = 1; pass(3) = 0\n", Edge.times(2, """
            would(21, 0) = 6; would(21, 1) = 4; fails() = 18; comes() = 30; oil(21) = 3; better(18, 21) = 0
            other(0, 21) = -4; idle(21) = 0; judge(0, 0, 1) = 0; differences(-1) = 0; difference(0, 0) = -102
            unlit() = 0; many(0, 0) = 1; says(1, 0) = 22; shipAt(22, 0) = 1; log(1, 1) = 4; logged(1) = 3
            weather(18) = 0; dark(18) = 1; keeperOf(0, 3) = 6; shipOf(1, 2) = -1; element(0, 23) = 0; holds(1) = 11
            """), "status(0) = 3; status(12) = 2; status(11) = 0; status(1) = 7");
    }

    /** Terms 3, "DIFFERENCES: HOURS passed that THE LOG calls LIT, in which a SHIP met no LIGHT (0 or 2)": 1, 1, 0. */
    private static void differencesOfLit() {
        Edge.holds("DIFFERENCES of LIT", SLEEPY, """
            ship(3, 5) = 0; ship(3, 6) = 1; ship(3, 9) = 2
            pass(6) = 0; log(5, 1) = 1; shipOf(0, 3) = 1; differences(-1) = 0
            pass(1) = 0; log(7, 0) = 6; log(7, 1) = 1; shipOf(1, 3) = 1; differences(-1) = 0; difference(0, 0) = -102
            pass(2) = 2; differences(-1) = 0; pass(1) = 1; log(10, 1) = 1; shipOf(2, 3) = 0; differences(-1) = 1
            difference(0, 0) = 9; difference(0, 1) = 2; difference(0, 2) = 0; difference(1, 0) = -102
            """);
    }

    /** Terms 3, "HOURS passed .. in which a SHIP met no LIGHT": no SHIP, and SHIPS of the HOURS beside. */
    private static void differencesNeedAShip() {
        Edge.holds("DIFFERENCES need a SHIP", SLEEPY, """
            ship(3, 8) = 0; ship(3, 10) = 1; ship(3, 12) = 2; ship(3, 15) = 3
            pass(10) = 3; log(10, 0) = 9; log(10, 1) = 1; differences(-1) = 0; pass(5) = 2; keeperOf(0, 5) = 3
            shipOf(2, 3) = 0; differences(-1) = 0; pass(1) = 1; differences(-1) = 1; difference(0, 0) = 15
            """);
    }

    /** Terms 3, "and such that it calls DARK, in which a SHIP met LIGHT (never so, if the log is true)": 3, 2, 0. */
    private static void differencesOfDark() {
        Edge.holds("DIFFERENCES of DARK", SLEEPY, Edge.sky("f8 c99", 2), """
            tell(4, 20) = 0; ship(3, 5) = 0; ship(3, 7) = 1; ship(3, 8) = 2
            pass(8) = 1; shipOf(0, 3) = 3; shipOf(1, 3) = 2; logged(2) = 1; differences(-1) = 0
            pass(1) = 1; shipOf(2, 3) = 0; logged(2) = 2; differences(-1) = 0; difference(0, 0) = -102
            """);
    }

    /** Terms 3, "DIFFERENCES: .. ; by HOURS": whatever the SHIPS' numbers. */
    private static void differencesByHours() {
        Edge.holds("DIFFERENCES by HOURS", SLEEPY, "ship(3, 15) = 0; ship(3, 9) = 1; ship(3, 18) = 2; pass(19) = 9\n",
            """
            differences(-1) = 3; difference(-1, 0) = -102; difference(0, 0) = 9; difference(1, 0) = 15
            difference(2, 0) = 18; difference(3, 0) = -102; difference(0, 1) = 1; difference(1, 1) = 0
            difference(2, 1) = 2
            """);
    }

    /** Terms 3, "In thought n HOURS pass: as they would now": none, one, and up to the HOUR that isn't LIT any more. */
    private static void inThoughtAsNow() {
        Edge.holds("in thought", "keeper(0) = 0; tell(3, 10) = 0\n", Edge.watch(0, 0, 5), Edge.watch(0, 18, 23), """
            would(0, 0) = 0; would(0, 1) = 10; would(1, 1) = 9; would(6, 1) = 4; would(18, 1) = 4; would(19, 1) = 3
            would(22, 0) = 0; would(22, 1) = 0; would(23, 0) = 1; would(24, 0) = 2; fails() = 22; status(0) = 0
            status(1) = 10
            pass(6) = 0; status(1) = 4; would(0, 1) = 4; would(13, 1) = 3; pass(16) = 0; status(1) = 0
            would(0, 0) = 0; would(1, 0) = 1; fails() = 22; pass(1) = 1; would(1, 0) = 1; fails() = 23
            """);
    }

    /** Terms 3, "IN TRUTH a DAY by draws (of one HOUR): .. then an HOUR PASSES". */
    private static void dayOfOneHour() {
        Edge.holds("a DAY of one HOUR", """
            days(1) = 1; status(0) = 1; status(8) = 1; days(2) = 2; status(0) = 3; days(3) = 3; status(0) = 6
            days(1) = 0; status(0) = 7; status(8) = 6; days(11) = 0; status(0) = 18; days(1) = 1; status(0) = 19
            """);
    }

    /** Terms 3, "a DRAW below 3: 0": by draws of 2, 1 and 0. */
    private static void dayWithoutAShip() {
        Edge.holds("a DAY without a SHIP", """
            seed(1) = 1; days(1) = 1; status(18) = 1103527590; status(6) = 0
            seed(-1) = 1103527590; days(1) = 1; status(18) = -1103502900; status(6) = 0
            seed(0) = -1103502900; days(1) = 1; status(18) = -1492899873; status(6) = 1
            shipOf(0, 0) = 4; shipOf(0, 1) = 14
            """);
    }

    /** Terms 3, "one more of the KIND of 3 and a DRAW below 5, for HOUR and a DRAW below 24": 0 and 0, 4 and 23. */
    private static void dayOfTheFirstAndTheLastKind() {
        Edge.holds("a DAY of the first and the last KIND", """
            pass(6) = 6; seed(136) = 1; days(1) = 0; status(18) = -372217849
            shipOf(0, 0) = 3; shipOf(0, 1) = 6; shipOf(0, 2) = 0; shipOf(0, 3) = 0
            seed(94) = -372217849; days(1) = 0; status(18) = -718310827
            shipOf(1, 0) = 7; shipOf(1, 1) = 30; shipOf(1, 2) = -1; pass(22) = 12
            seed(129) = -718310827; days(1) = 0; status(18) = 1717583636; status(0) = 31; status(6) = 3
            shipOf(1, 2) = 0; shipOf(2, 0) = 7; shipOf(2, 1) = 30; shipOf(2, 2) = 0
            """);
    }

    /** Terms 3, "if there are fewer than 200 SHIPS": 198, 199 and 200; then SEED goes on by that one DRAW alone. */
    private static void dayWithShipsAtMost() {
        Edge.holds("a DAY with SHIPS at most", Edge.each(0, 197, ship -> "ship(3, 600) = " + ship), """
            seed(0) = 1; days(1) = 1; status(6) = 199; status(18) = -1492899873; shipOf(198, 0) = 4; shipOf(198, 1) = 12
            seed(0) = -1492899873; days(1) = 1; status(6) = 200; status(18) = -1492899873; shipOf(199, 1) = 13
            seed(0) = -1492899873; days(1) = 1; status(6) = 200; status(18) = 12345; shipOf(200, 0) = -102
            ship(3, 600) = -106; status(16) = 1; status(0) = 3
            """);
    }

    /** Terms 3, "SEED (1 at first)". */
    private static void seedAtFirst() {
        Edge.holds("SEED at first",
            "status(18) = 1; seed(2) = 1; status(18) = 2; seed(1) = 2; days(1) = 1; status(18) = 1103527590");
    }

    /** Terms 3, "becomes SEED times 1103515245, and 12345 (an int, wrapping)": of the least and the greatest int. */
    private static void seedWraps() {
        Edge.holds("SEED wraps", """
            seed(-2147483648) = 1; days(1) = 1; status(18) = -2147471303
            seed(2147483647) = -2147471303; days(1) = 1; status(18) = 1043980748
            seed(-1) = 1043980748; days(1) = 1; status(18) = -1103502900; seed(2) = -1103502900; days(1) = 1
            status(18) = -2087924461; seed(3) = -2087924461; days(1) = 1; status(18) = -984409216; status(6) = 0
            """);
    }

    /** Terms 3, "its upper 16 bits, no sign, modulo n": SEEDS below 0 that with a sign would draw another number. */
    private static void drawHasNoSign() {
        Edge.holds("a DRAW has no sign", """
            seed(2) = 1; days(1) = 1; status(6) = 0; status(18) = -2087924461
            seed(7) = -2087924461; days(1) = 1; status(6) = 1; status(18) = 712265938; shipOf(0, 0) = 4
            shipOf(0, 1) = 21
            seed(0) = 712265938; days(1) = 1; status(6) = 2; status(18) = -1492899873; shipOf(1, 0) = 4
            shipOf(1, 1) = 14
            seed(10) = -1492899873; days(1) = 1; status(6) = 3; status(18) = -1410496783
            shipOf(2, 0) = 7; shipOf(2, 1) = 24
            """);
    }

    /** Terms 3, "SHELVES 0 to 7 hold NOTHING (at first), a ROW, or a SHIP". */
    private static void shelvesAtFirst() {
        Edge.holds("SHELVES", Edge.each(0, 7, s -> "holds(" + s + ") = -1"), """
            status(19) = 0; ship(5, 9) = 0; row(-1, 0, 0) = -102; row(8, 0, 0) = -102; show(-1, 0) = -102
            show(8, 0) = -102
            row(0, 0, 0) = 1; row(7, 4, 1) = 1; show(1, 0) = 1; show(6, 0) = 1; status(19) = 4
            holds(-1) = -1; holds(0) = 0; holds(1) = 10; holds(2) = -1; holds(5) = -1; holds(6) = 10; holds(7) = 4
            holds(8) = -1; row(6, 1, 1) = 1; show(7, -1) = 1; holds(6) = 1; holds(7) = -1; status(19) = 3
            """);
    }

    /** Terms 3, "A ROW has a SORT (0 bytes, 1 shorts, 2 ints, 3 longs, 4 booleans)". */
    private static void rowSorts() {
        Edge.holds("SORTS", "row(0, -1, 1) = -102; holds(0) = -1\n",
            Edge.each(0, 4, sort -> "row(" + sort + ", " + sort + ", 1) = 1"),
            Edge.each(0, 4, sort -> "holds(" + sort + ") = " + sort), "row(5, 5, 1) = -102; holds(5) = -1\n",
            Edge.each(0, 4, sort -> "set(" + sort + ", 0, 32769) = 1"), """
            element(0, 0) = 1; element(1, 0) = -32767; element(2, 0) = 32769; element(3, 0) = 32769; element(4, 0) = 1
            """);
    }

    /** Terms 3, "and 0 to 40 elements". */
    private static void rowSizes() {
        Edge.holds("elements of a ROW", """
            row(0, 2, -1) = -102; row(0, 2, 0) = 1; set(0, 0, 5) = -102; row(1, 2, 1) = 1; set(1, 0, 5) = 1
            set(1, 1, 5) = -102
            row(2, 2, 39) = 1; set(2, 38, 5) = 1; set(2, 39, 5) = -102; element(2, 38) = 5; element(2, 39) = 0
            row(3, 2, 40) = 1; set(3, 39, 5) = 1; set(3, 40, 5) = -102; element(3, 39) = 5; element(3, 40) = 0
            row(4, 2, 41) = -102; holds(4) = -1; row(3, 2, 41) = -102; element(3, 39) = 5; status(19) = 4
            """);
    }

    /** Terms 3, "(0, or not so, at first)": also where another ROW was. */
    private static void rowAtFirst() {
        Edge.holds("a ROW at first", "row(0, 2, 3) = 1\n", Edge.elements(0, 0, 0, 0),
            "set(0, 0, 7) = 1; set(0, 2, 9) = 1\n",
            "row(0, 2, 3) = 1\n", Edge.elements(0, 0, 0, 0), "set(0, 2, 9) = 1; row(0, 4, 2) = 1\n",
            Edge.elements(0, 0, 0, 0),
            "set(0, 1, 9) = 1; row(0, 3, 3) = 1\n", Edge.elements(0, 0, 0, 0));
    }

    /** Terms 3, "what is put in keeps its lowest bits": of bytes. */
    private static void lowestBitsOfBytes() {
        Edge.holds("lowest bits of bytes", "row(0, 0, 1) = 1\n", put(126, 126), put(127, 127), put(128, -128),
            put(129, -127),
            put(-127, -127), put(-128, -128), put(-129, 127), put(255, -1), put(256, 0), put(257, 1),
            put(Long.MAX_VALUE, -1), put(Long.MIN_VALUE, 0));
    }

    /** Terms 3, "what is put in keeps its lowest bits": of shorts. */
    private static void lowestBitsOfShorts() {
        Edge.holds("lowest bits of shorts", "row(0, 1, 1) = 1\n", put(32766, 32766), put(32767, 32767),
            put(32768, -32768),
            put(32769, -32767), put(-32767, -32767), put(-32768, -32768), put(-32769, 32767), put(65535, -1),
            put(65536, 0),
            put(65537, 1), put(Long.MAX_VALUE, -1), put(Long.MIN_VALUE, 0));
    }

    /** Terms 3, "what is put in keeps its lowest bits": of ints. */
    private static void lowestBitsOfInts() {
        Edge.holds("lowest bits of ints", "row(0, 2, 1) = 1\n", put(2147483646L, 2147483646L),
            put(2147483647L, 2147483647L),
            put(2147483648L, -2147483648L), put(2147483649L, -2147483647L), put(-2147483647L, -2147483647L),
            put(-2147483648L, -2147483648L), put(-2147483649L, 2147483647L), put(4294967295L, -1), put(4294967296L, 0),
            put(4294967297L, 1), put(Long.MAX_VALUE, -1), put(Long.MIN_VALUE, 0));
    }

    /** Terms 3, "what is put in keeps its lowest bits": of longs, which is all. */
    private static void lowestBitsOfLongs() {
        Edge.holds("lowest bits of longs", "row(0, 3, 1) = 1\n", put(Long.MAX_VALUE, Long.MAX_VALUE),
            put(Long.MAX_VALUE - 1, Long.MAX_VALUE - 1), put(Long.MIN_VALUE, Long.MIN_VALUE),
            put(Long.MIN_VALUE + 1, Long.MIN_VALUE + 1), put(4294967296L, 4294967296L), put(-1, -1), put(0, 0),
            put(1, 1));
    }

    /** Terms 3, "(of booleans: whether it is not 0); told they are numbers (1, 0)". */
    private static void lowestBitsOfBooleans() {
        Edge.holds("booleans", "row(0, 4, 1) = 1\n", put(-1, 1), put(0, 0), put(1, 1), put(2, 1), put(0, 0),
            put(256, 1),
            put(0, 0), put(4294967296L, 1), put(Long.MIN_VALUE, 1), put(0, 0), put(Long.MAX_VALUE, 1));
    }

    private static String put(long v, long kept) {
        return "set(0, 0, " + v + ") = 1; element(0, 0) = " + kept + "\n";
    }

    /** REFUSALS, "the call answers the number; nothing changes but how many there were": none, one, two of each. */
    private static void refusalsAreCounted() {
        Edge.holds("REFUSALS", Edge.refusals(0, 0, 0, 0, 0), "row(8, 0, 0) = -102\n", Edge.refusals(1, 0, 0, 0, 0),
            "ship(3, 1) = 0; show(0, 0) = 1; set(0, 0, 0) = -103\n", Edge.refusals(1, 1, 0, 0, 0),
            "set(1, 0, 0) = -104\n",
            Edge.refusals(1, 1, 1, 0, 0), "back() = -105\n", Edge.refusals(1, 1, 1, 1, 0),
            Edge.each(0, 5, k -> "keeper(0) = " + k), "keeper(0) = -106\n", Edge.refusals(1, 1, 1, 1, 1), """
            keeper(1) = -106; back() = -105; set(2, 0, 0) = -104; plans(0) = -103; pass(-1) = -102; sky() = -300
            """, Edge.refusals(3, 2, 2, 2, 2));
    }

    /** REFUSALS, "the first that fits as each line has them": each two that can fit at once. */
    private static void refusalsByTheFirst() {
        Edge.holds("the first that fits", "ship(3, 1) = 0; show(0, 0) = 1; row(2, 0, 3) = 1; row(3, 1, 3) = 1\n", """
            copy(8, 0, 0, 0, 1) = -102; copy(0, -1, 0, 0, 1) = -102; copy(0, 1, 0, 0, 1) = -103
            copy(2, 3, 9, 0, 1) = -103
            copy(1, 2, 9, 0, 1) = -104; set(0, 9, 1) = -103; set(1, 9, 1) = -104; set(8, 9, 1) = -102; says(1, 8) = -102
            other(0, 201) = -102; other(1, 201) = -102; other(0, 5) = -103; other(1, 5) = -104; judge(-1, 0, 1) = -102
            judge(0, 1, 21) = -102; judge(0, 0, 20) = -103; judge(0, 1, 20) = -104; better(24, 1) = -102
            better(0, 1) = -105
            """, Edge.refusals(9, 5, 4, 1, 0));
        Edge.holds("BAD ahead of FULL", Edge.each(0, 5, k -> "keeper(0) = " + k), Edge.fed("c".repeat(250)), """
            keeper(3) = -102; keeper(2) = -106; keeper(-1) = -102; feed(256) = -102; feed(255) = -106; feed(-1) = -102
            """, Edge.refusals(4, 0, 0, 0, 2));
    }

    /** REFUSALS, "-102 BAD a number that may not be, nothing of that number": beside a number and a thing that may be. */
    private static void refusalBad() {
        Edge.holds("BAD", """
            tell(2, 0) = -102; tell(2, 1) = 1; tell(2, 4) = 1; tell(2, 5) = -102; keeperOf(0, 0) = -102; keeper(0) = 0
            keeperOf(-1, 0) = -102; keeperOf(0, 0) = 0; keeperOf(1, 0) = -102; log(0, 0) = -102; plan(0, 0) = -1; pass(1) = 1
            log(-1, 0) = -102; log(0, 0) = 0; log(1, 0) = -102
            """, Edge.refusals(8, 0, 0, 0, 0));
    }

    /** REFUSALS, "-103 OTHER: a SHELF that holds another thing than is wanted": a ROW, a SHIP, NOTHING. */
    private static void refusalOther() {
        Edge.holds("OTHER", "ship(3, 5) = 0; keeper(0) = 0; row(0, 2, 40) = 1; show(1, 0) = 1\n", """
            set(0, 0, 0) = 1; set(1, 0, 0) = -103; set(2, 0, 0) = -104; plans(0) = 1; plans(1) = -103; plans(2) = -104
            other(0, 1) = 0; other(1, 1) = -103; other(2, 1) = -104; judge(0, 0, 0) = -1; judge(0, 1, 0) = -103
            judge(0, 2, 0) = -104; copy(0, 0, 0, 0, 1) = 1; copy(0, 1, 0, 0, 1) = -103; copy(0, 2, 0, 0, 1) = -104
            says(0, 0) = -103; says(1, 0) = 5; says(2, 0) = -104
            """, Edge.refusals(0, 6, 6, 0, 0));
    }

    /** REFUSALS, "-104 NOTHING: a SHELF that holds NOTHING": at first, and when it is shown NOTHING. */
    private static void refusalNothing() {
        Edge.holds("NOTHING", """
            set(0, 0, 0) = -104; row(0, 0, 1) = 1; set(0, 0, 0) = 1; show(0, -1) = 1; set(0, 0, 0) = -104; ship(3, 5) = 0
            says(0, 0) = -104; show(0, 0) = 1; says(0, 0) = 5; show(0, -1) = 1; says(0, 0) = -104; row(0, 0, 0) = 1
            set(0, 0, 0) = -102; says(0, 0) = -103
            """, Edge.refusals(1, 1, 4, 0, 0));
    }

    /** REFUSALS, "-105 STUCK: it can't be as things stand": no KEEPERS, no image; then one of each. */
    private static void refusalStuck() {
        Edge.holds("STUCK", """
            better(0, 1) = -105; back() = -105; keeper(0) = 0; better(0, 1) = -1; back() = -105; image() = 1; back() = 1
            better(0, 1) = -1; status(5) = 1
            """, Edge.refusals(0, 0, 0, 3, 0));
    }

    /** REFUSALS, "-106 FULL": the last for which there is room, the next, and again when there is room. */
    private static void refusalFull() {
        Edge.holds("FULL", Edge.each(0, 4, k -> "keeper(0) = " + k), Edge.each(1, 249, size -> "feed(99) = " + size), """
            image() = 1; keeper(0) = 5; keeper(0) = -106; back() = 1; keeper(0) = 5; feed(99) = 250; feed(99) = -106
            wipe() = 250; feed(99) = 1; status(5) = 6; status(17) = 1
            """, Edge.refusals(0, 0, 0, 0, 2));
    }
}
