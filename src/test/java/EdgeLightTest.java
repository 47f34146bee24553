/** The edges that the terms of "1. THE LIGHT" name, a sentence or a part of one each. */
public final class EdgeLightTest {
    public static void main(String[] args) {
        hourAtFirst();
        dawn();
        dusk();
        darkHours();
        darkWithoutNight();
        darkButForOneHour();
        oil();
        coal();
        wick();
        lampAtFirst();
        weathers();
        runsOfTheSky();
        hoursOfARun();
        skyAgainAndAgain();
        skyFromHourZero();
        noSky();
        tapeAtMost();
        oneRunOrMore();
        blanksBetween();
        letters();
        digits();
        firstFault();
        faultOfANumber();
        faultOfTheTwentyFirst();
        tapeThatEndsTooEarly();
        keepersAtMost();
        ranks();
        headLasts();
        handLasts();
        boyLasts();
        planHours();
        shipsAtMost();
        kindsUnderKinds();
        kindsOfShips();
        byRank();
        byRankOfOneKind();
        boatAtFirst();
        boatEvery();
        Check.end();
    }

    /** Terms 1, "HOUR (0 at first)". */
    private static void hourAtFirst() {
        Edge.holds("HOUR at first", """
            status(0) = 0; pass(0) = 0; status(0) = 0; pass(1) = 1; status(0) = 1
            """);
    }

    /** Terms 1, "DAWN (6 at first; 0 to 12)". */
    private static void dawn() {
        Edge.holds("DAWN", """
            tell(0, 5) = 6; tell(0, 6) = 5; tell(0, 7) = 6
            tell(0, -2) = -102; tell(0, -1) = -102; tell(0, 0) = 7; tell(0, 1) = 0
            dark(0) = 1; dark(1) = 0
            tell(0, 11) = 1; tell(0, 12) = 11; tell(0, 13) = -102; tell(0, 14) = -102
            dark(11) = 1; dark(12) = 0; dark(13) = 0
            tell(0, 2147483647) = -102; tell(0, -2147483648) = -102; tell(0, 12) = 12
            status(12) = 6
            """);
    }

    /** Terms 1, "DUSK (18 at first; 13 to 24)". */
    private static void dusk() {
        Edge.holds("DUSK", """
            tell(1, 17) = 18; tell(1, 18) = 17; tell(1, 19) = 18
            tell(1, 0) = -102; tell(1, 12) = -102; tell(1, 13) = 19; tell(1, 14) = 13
            dark(13) = 0; dark(14) = 1
            tell(1, 23) = 14; tell(1, 24) = 23; tell(1, 25) = -102; tell(1, 26) = -102
            dark(22) = 0; dark(23) = 0; dark(24) = 1
            tell(1, 2147483647) = -102; tell(1, -2147483648) = -102; tell(1, 24) = 24
            status(12) = 6
            """);
    }

    /** Terms 1, "an HOUR is DARK, if it modulo 24 is below DAWN, or DUSK at least". */
    private static void darkHours() {
        Edge.holds("DARK", """
            dark(0) = 1; dark(1) = 1; dark(4) = 1; dark(5) = 1; dark(6) = 0; dark(7) = 0
            dark(16) = 0; dark(17) = 0; dark(18) = 1; dark(19) = 1
            dark(22) = 1; dark(23) = 1; dark(24) = 1; dark(25) = 1
            dark(29) = 1; dark(30) = 0; dark(31) = 0; dark(41) = 0; dark(42) = 1; dark(43) = 1
            dark(2147483645) = 1; dark(2147483646) = 0; dark(2147483647) = 0
            pass(5) = 5; pass(1) = 1; pass(1) = 0; pass(10) = 0; pass(1) = 0; pass(1) = 1; pass(1) = 1
            pass(4) = 4; pass(5) = 5; pass(1) = 1; pass(1) = 0
            """);
    }

    /** Terms 1, "an HOUR is DARK, if it modulo 24 is below DAWN", where none is: DAWN 0, DUSK 24. */
    private static void darkWithoutNight() {
        Edge.holds("no DARK", """
            tell(0, 0) = 6; tell(1, 24) = 18
            dark(0) = 0; dark(1) = 0; dark(22) = 0; dark(23) = 0; dark(24) = 0; dark(25) = 0
            pass(49) = 0; status(8) = 0; unlit() = 0
            tell(0, 1) = 0; dark(48) = 1; dark(49) = 0; dark(72) = 1; dark(73) = 0
            pass(23) = 0; pass(1) = 1; pass(1) = 0
            tell(1, 23) = 24; dark(94) = 0; dark(95) = 1; dark(96) = 1; dark(97) = 0
            """);
    }

    /** Terms 1, "an HOUR is DARK, if it modulo 24 is .. DUSK at least", where all are but one: DAWN 12, DUSK 13. */
    private static void darkButForOneHour() {
        Edge.holds("DARK but for one hour", """
            tell(0, 12) = 6; tell(1, 13) = 18
            dark(11) = 1; dark(12) = 0; dark(13) = 1; dark(35) = 1; dark(36) = 0; dark(37) = 1
            pass(12) = 12; pass(1) = 0; pass(1) = 1; pass(22) = 22; pass(1) = 0; pass(1) = 1
            """);
    }

    /** Terms 1, "OIL, COAL (0 at first; 9999 at most)": OIL. */
    private static void oil() {
        Edge.holds("OIL at most", """
            status(1) = 0; tell(3, -1) = -102; tell(3, 0) = 0; tell(3, 1) = 0; status(1) = 1
            tell(3, 9998) = 1; tell(3, 9999) = 9998; tell(3, 10000) = -102; tell(3, 10001) = -102
            status(1) = 9999; status(2) = 0
            """);
    }

    /** Terms 1, "OIL, COAL (0 at first; 9999 at most)": COAL. */
    private static void coal() {
        Edge.holds("COAL at most", """
            status(2) = 0; tell(4, -1) = -102; tell(4, 0) = 0; tell(4, 1) = 0; status(2) = 1
            tell(4, 9998) = 1; tell(4, 9999) = 9998; tell(4, 10000) = -102; tell(4, 10001) = -102
            status(2) = 9999; status(1) = 0
            """);
    }

    /** Terms 1, "WICK (1 at first; 1 to 4)". */
    private static void wick() {
        Edge.holds("WICK", """
            tell(2, -1) = -102; tell(2, 0) = -102; tell(2, 1) = 1; tell(2, 2) = 1; tell(2, 3) = 2
            tell(2, 4) = 3; tell(2, 5) = -102; tell(2, 6) = -102; tell(2, 4) = 4
            keeper(0) = 0; plan(0, 0) = -1; tell(3, 9) = 0; pass(1) = 0; status(1) = 5
            """);
    }

    /** Terms 1, "The LAMP is LIT or not (not at first), and how long UNTENDED (0 at first)". */
    private static void lampAtFirst() {
        Edge.holds("LAMP at first", """
            status(3) = 0; status(4) = 0; tell(3, 9) = 0
            pass(1) = 1; status(3) = 0; status(4) = 0; status(1) = 9
            keeper(0) = 0; plan(1, 0) = -1; pass(1) = 0; status(3) = 1; status(4) = 0; status(1) = 8
            pass(1) = 0; status(3) = 1; status(4) = 1; status(1) = 7
            """);
    }

    /** Terms 1, "WEATHER: 0 CLEAR, 1 FOG, 2 STORM". */
    private static void weathers() {
        Edge.holds("WEATHER", Edge.sky("c1 f1 s1", 3),
            "weather(0) = 0; weather(1) = 1; weather(2) = 2; weather(3) = 0");
    }

    /** Terms 1, "THE SKY: RUNS (none at first; 20 at most)". */
    private static void runsOfTheSky() {
        Edge.holds("RUNS of THE SKY", "status(10) = 0\n", Edge.sky("f1", 1), "status(10) = 1\n",
            Edge.sky("f1" + " c1".repeat(18), 19), "status(10) = 19; weather(18) = 0; weather(19) = 1\n",
            Edge.sky("f1" + " c1".repeat(19), 20), "status(10) = 20; weather(19) = 0; weather(20) = 1\n",
            Edge.sky("f1" + " c1".repeat(20), -360),
            "status(10) = 20; weather(19) = 0; weather(20) = 1; weather(21) = 0");
    }

    /** Terms 1, "each a WEATHER for 1 to 99 HOURS". */
    private static void hoursOfARun() {
        Edge.holds("HOURS of a RUN", Edge.sky("f0 c1", -301), "weather(0) = 0\n",
            Edge.sky("f1 c1", 2), "weather(0) = 1; weather(1) = 0; weather(2) = 1\n",
            Edge.sky("f2 c1", 2), "weather(1) = 1; weather(2) = 0; weather(3) = 1\n",
            Edge.sky("f98 c1", 2), "weather(97) = 1; weather(98) = 0; weather(99) = 1\n",
            Edge.sky("f99 c1", 2), "weather(98) = 1; weather(99) = 0; weather(100) = 1\n",
            Edge.sky("f100 c1", -303), "weather(98) = 1; weather(99) = 0; weather(100) = 1");
    }

    /** Terms 1, "gone through from HOUR 0 on, again and again". */
    private static void skyAgainAndAgain() {
        Edge.holds("THE SKY again", Edge.sky("f1 s2 c3", 3), """
            weather(0) = 1; weather(1) = 2; weather(2) = 2; weather(3) = 0; weather(4) = 0; weather(5) = 0
            weather(6) = 1; weather(7) = 2; weather(8) = 2; weather(9) = 0; weather(11) = 0; weather(12) = 1
            weather(5999) = 0; weather(6000) = 1; weather(6001) = 2
            weather(2147483645) = 0; weather(2147483646) = 1; weather(2147483647) = 2
            """);
    }

    /** Terms 1, "gone through from HOUR 0 on": also if it is told at another HOUR. */
    private static void skyFromHourZero() {
        Edge.holds("THE SKY from HOUR 0", "pass(7) = 6\n", Edge.sky("f4 s2", 2), """
            weather(0) = 1; weather(3) = 1; weather(4) = 2; weather(5) = 2; weather(6) = 1; weather(7) = 1
            weather(9) = 1; weather(10) = 2; weather(11) = 2; weather(12) = 1
            ship(3, 9) = 0; ship(3, 10) = 1; ship(3, 11) = 2; ship(3, 12) = 3; pass(6) = 0
            shipOf(0, 2) = 0; shipOf(1, 2) = 1; shipOf(2, 2) = 1; shipOf(3, 2) = 0
            """);
    }

    /** Terms 1, "none: CLEAR always". */
    private static void noSky() {
        Edge.holds("no SKY", """
            status(10) = 0; weather(0) = 0; weather(1) = 0; weather(2147483647) = 0
            ship(3, 6) = 0; ship(6, 7) = 1; ship(7, 200) = 2; pass(200) = 102; pass(1) = 0
            shipOf(0, 2) = 0; shipOf(1, 2) = 0; shipOf(2, 2) = 0
            """);
    }

    /** Terms 1, "It is read from THE TAPE (bytes, 250 at most)". */
    private static void tapeAtMost() {
        Edge.holds("THE TAPE at most", Edge.sky("f1" + " f01".repeat(19), 20), Edge.fed("f2" + " f09".repeat(19)),
            Edge.each(79, 249, size -> "feed(57) = " + size), "status(17) = 249; feed(57) = 250; status(17) = 250\n",
            "feed(57) = -106; status(17) = 250; status(16) = 1; feed(57) = -106; status(16) = 2; sky() = -378");
    }

    /** Terms 1, "RUNS, one or more". */
    private static void oneRunOrMore() {
        Edge.holds("RUNS, one or more", "sky() = -300; status(10) = 0; status(12) = 1\n", Edge.sky("f3", 1),
            "status(10) = 1; weather(3) = 1\n", Edge.sky("f3 c1", 2), "status(10) = 2; weather(3) = 0\n",
            "sky() = -300; status(10) = 2; status(12) = 2");
    }

    /** Terms 1, "with blanks (32; one each) between". */
    private static void blanksBetween() {
        Edge.holds("blanks between", Edge.sky("c1f1", -302), Edge.sky("c1 f1", 2), Edge.sky("c1  f1", -303),
            Edge.sky("c1\u001ff1", -302), Edge.sky("c1!f1", -302), Edge.sky("c11f1", -303), Edge.sky("c11 f1", 2),
            Edge.sky(" c1 f1", -300), Edge.sky("c1 f1 ", -306), Edge.sky("c 1", -301), Edge.sky("c1 f 1", -304),
            "status(10) = 2; status(12) = 9; status(17) = 0");
    }

    /** Terms 1, "a letter (c, f, s)": the bytes beside each of them, and the great letters. */
    private static void letters() {
        Edge.holds("letters", Edge.sky("b1", -300), Edge.sky("c1", 1), Edge.sky("d1", -300), Edge.sky("e1", -300),
            Edge.sky("f1", 1), Edge.sky("g1", -300), Edge.sky("r1", -300), Edge.sky("s1", 1), Edge.sky("t1", -300),
            Edge.sky("C1", -300), Edge.sky("F1", -300), Edge.sky("S1", -300), Edge.sky("11", -300),
            Edge.sky("\u00001", -300), Edge.sky("\u00ff1", -300), Edge.sky("s1 t1", -303),
            "status(10) = 1; weather(0) = 2; status(12) = 13");
    }

    /** Terms 1, "right behind it a number (1 or 2 digits)": none, 1, 2 and 3 of them, and the bytes beside 0 and 9. */
    private static void digits() {
        Edge.holds("digits", Edge.sky("f", -301), Edge.sky("f f1", -301), Edge.sky("f1", 1), Edge.sky("f9", 1),
            Edge.sky("f10", 1), Edge.sky("f99 c1", 2), "weather(98) = 1; weather(99) = 0\n", Edge.sky("f01 c1", 2),
            "weather(0) = 1; weather(1) = 0\n", Edge.sky("f09 c1", 2), "weather(8) = 1; weather(9) = 0\n",
            Edge.sky("f011", -303), Edge.sky("f100", -303), Edge.sky("f123", -303), Edge.sky("f/", -301),
            Edge.sky("f:", -301), Edge.sky("f1/", -302), Edge.sky("f1:", -302), Edge.sky("f/1", -301),
            "status(10) = 2; status(12) = 10");
    }

    /** Terms 1, "The FAULT: the place of the first byte that can't stand there". */
    private static void firstFault() {
        Edge.holds("the first FAULT", Edge.sky("xx", -300), Edge.sky("cx x", -301), Edge.sky("c1xx", -302),
            Edge.sky("c12xx", -303), Edge.sky("c1 xx", -303), Edge.sky("c1 fx", -304), Edge.sky("c1 f2x", -305),
            Edge.sky("c1 f2 x", -306), Edge.sky("c1 f2 s3", 3), "status(12) = 8; status(10) = 3");
    }

    /** Terms 1, "(of a number that may not be its first digit". */
    private static void faultOfANumber() {
        Edge.holds("FAULT of a number", Edge.sky("s0", -301), Edge.sky("s00", -301), Edge.sky("s01", 1),
            Edge.sky("s0 f1", -301), Edge.sky("s00 f1", -301), Edge.sky("s0x", -301), Edge.sky("s00x", -301),
            Edge.sky("s000", -301), Edge.sky("s1 f0", -304), Edge.sky("s1 f00", -304), Edge.sky("s1 f01", 2),
            Edge.sky("s10 f00 c1", -305), Edge.sky("s10 f10 c1", 3), "status(12) = 10; status(10) = 3");
    }

    /** Terms 1, "of a 21st RUN its letter". */
    private static void faultOfTheTwentyFirst() {
        Edge.holds("FAULT of a 21st RUN", Edge.sky("c1" + " c1".repeat(19), 20),
            Edge.sky("c1" + " c1".repeat(20), -360),
            Edge.sky("c1" + " c1".repeat(19) + " c0", -360), Edge.sky("c1" + " c1".repeat(19) + " c", -360),
            Edge.sky("c1" + " c1".repeat(19) + " x1", -360), Edge.sky("c1" + " c1".repeat(19) + "  c1", -360),
            Edge.sky("c1" + " c1".repeat(18) + " c0", -358), "status(12) = 6; status(10) = 20");
    }

    /** Terms 1, "THE TAPE's size, if it ends too early". */
    private static void tapeThatEndsTooEarly() {
        Edge.holds("a TAPE that ends too early", Edge.sky("", -300), Edge.sky("s", -301), Edge.sky("s2", 1),
            Edge.sky("s2 ", -303), Edge.sky("s2 c", -304), Edge.sky("s2 c3", 2), Edge.sky("s22 ", -304),
            Edge.sky("s22 c", -305), Edge.sky("s22 c33", 2), Edge.sky("c1" + " c1".repeat(19) + " ", -360),
            "status(12) = 7; status(10) = 2");
    }

    /** Terms 1, "KEEPERS 0 on, 6 at most, of a RANK". */
    private static void keepersAtMost() {
        Edge.holds("KEEPERS at most", """
            status(5) = 0; keeperOf(0, 0) = -102; keeper(0) = 0; keeperOf(0, 1) = 0; keeperOf(1, 1) = -102
            keeper(1) = 1; keeper(2) = 2; keeper(0) = 3; keeper(1) = 4; status(5) = 5; keeperOf(5, 0) = -102
            keeper(2) = 5; status(5) = 6; keeperOf(5, 0) = 2; keeperOf(5, 1) = 0; keeperOf(6, 0) = -102
            keeper(0) = -106; status(5) = 6; keeper(1) = -106; keeperOf(6, 0) = -102; status(16) = 2
            """);
    }

    /** Terms 1, "of a RANK: 0 HEAD, 1 HAND, 2 BOY; TIRED (0 at first)". */
    private static void ranks() {
        Edge.holds("RANK", """
            keeper(-1) = -102; keeper(0) = 0; keeper(1) = 1; keeper(2) = 2; keeper(3) = -102; status(5) = 3
            keeperOf(0, 0) = 0; keeperOf(1, 0) = 1; keeperOf(2, 0) = 2
            keeperOf(0, 1) = 0; keeperOf(1, 1) = 0; keeperOf(2, 1) = 0
            """);
    }

    /** Terms 1, "They LAST: HEAD 12": he tends twelve hours, and sleeps in the next. */
    private static void headLasts() {
        Edge.holds("HEAD lasts", "keeper(0) = 0; keeperOf(0, 2) = 12\n", Edge.watch(0, 0, 23), """
            pass(11) = 6; keeperOf(0, 1) = 11; keeperOf(0, 4) = 11; keeperOf(0, 5) = 0
            pass(1) = 0; keeperOf(0, 1) = 12; keeperOf(0, 4) = 12; keeperOf(0, 5) = 0
            pass(1) = 0; keeperOf(0, 1) = 10; keeperOf(0, 4) = 12; keeperOf(0, 5) = 1
            pass(1) = 0; keeperOf(0, 1) = 11; keeperOf(0, 4) = 13; keeperOf(0, 5) = 1
            """);
    }

    /** Terms 1, "They LAST: .. HAND 9": he tends nine hours, and sleeps in the next. */
    private static void handLasts() {
        Edge.holds("HAND lasts", "keeper(1) = 0; keeperOf(0, 2) = 9\n", Edge.watch(0, 0, 23), """
            pass(8) = 6; keeperOf(0, 1) = 8; keeperOf(0, 4) = 8; keeperOf(0, 5) = 0
            pass(1) = 0; keeperOf(0, 1) = 9; keeperOf(0, 4) = 9; keeperOf(0, 5) = 0
            pass(1) = 0; keeperOf(0, 1) = 7; keeperOf(0, 4) = 9; keeperOf(0, 5) = 1
            pass(1) = 0; keeperOf(0, 1) = 8; keeperOf(0, 4) = 10; keeperOf(0, 5) = 1
            """);
    }

    /** Terms 1, "They LAST: .. BOY 6": he tends six hours, and sleeps in the next. */
    private static void boyLasts() {
        Edge.holds("BOY lasts", "keeper(2) = 0; keeperOf(0, 2) = 6\n", Edge.watch(0, 0, 23), """
            pass(5) = 5; keeperOf(0, 1) = 5; keeperOf(0, 4) = 5; keeperOf(0, 5) = 0
            pass(1) = 1; keeperOf(0, 1) = 6; keeperOf(0, 4) = 6; keeperOf(0, 5) = 0
            pass(1) = 0; keeperOf(0, 1) = 4; keeperOf(0, 4) = 6; keeperOf(0, 5) = 1
            pass(1) = 0; keeperOf(0, 1) = 5; keeperOf(0, 4) = 7; keeperOf(0, 5) = 1
            """);
    }

    /** Terms 1, "THE PLAN: for each hour of the day (0 to 23) a KEEPER, or none (at first)". */
    private static void planHours() {
        Edge.holds("THE PLAN's hours", Edge.each(0, 23, hour -> "plan(" + hour + ", -1) = -1"), """
            keeper(0) = 0; plan(-1, 0) = -102; plan(0, 0) = -1; plan(1, 0) = -1; keeperOf(0, 3) = 2
            plan(22, 0) = -1; plan(23, 0) = -1; plan(24, 0) = -102; keeperOf(0, 3) = 4
            plan(0, -1) = 0; plan(23, -1) = 0; keeperOf(0, 3) = 2
            plan(-1, -1) = -102; plan(24, -1) = -102; keeperOf(0, 3) = 2
            """);
    }

    /** Terms 1, "SHIPS, 0 on, 200 at most, each of a KIND and for an HOUR". */
    private static void shipsAtMost() {
        Edge.holds("SHIPS at most", "status(6) = 0; shipOf(0, 0) = -102; ship(3, 8) = 0; shipOf(0, 0) = 3\n",
            "shipOf(0, 1) = 8; shipOf(1, 0) = -102\n",
            Edge.each(1, 198, ship -> "ship(" + (3 + ship % 5) + ", " + ship % 7 + ") = " + ship), """
            status(6) = 199; shipOf(199, 0) = -102; ship(7, 999) = 199; status(6) = 200; shipOf(199, 0) = 7
            shipOf(199, 1) = 999; shipOf(200, 0) = -102; ship(3, 0) = -106; status(6) = 200; shipOf(200, 0) = -102
            status(16) = 1
            """);
    }

    /**
     * Terms 1, "0 SHIP; 1 SMALL, 2 GREAT, each under SHIP; 3 FISHER, 4 PILOT, each under SMALL; .. 7 MAIL under
     * LINER".
     */
    private static void kindsUnderKinds() {
        Edge.holds("KINDS", Edge.each(3, 7, kind -> "ship(" + kind + ", 12) = " + (kind - 3)), "pass(13) = 6\n",
            Edge.each(3, 7, kind -> "show(" + kind + ", " + (kind - 3) + ") = 1"), """
            says(3, 0) = 12; says(3, 1) = 1; says(3, 2) = -103; says(3, 3) = 0
            says(3, 4) = -103; says(3, 5) = -103; says(3, 6) = -103; says(3, 7) = -103
            says(4, 0) = 12; says(4, 1) = 1; says(4, 2) = -103; says(4, 3) = -103
            says(4, 4) = 0; says(4, 5) = -103; says(4, 6) = -103; says(4, 7) = -103
            says(5, 0) = 12; says(5, 1) = -103; says(5, 2) = 2; says(5, 3) = -103
            says(5, 4) = -103; says(5, 5) = 0; says(5, 6) = -103; says(5, 7) = -103
            says(6, 0) = 12; says(6, 1) = -103; says(6, 2) = 2; says(6, 3) = -103
            says(6, 4) = -103; says(6, 5) = -103; says(6, 6) = 0; says(6, 7) = -103
            says(7, 0) = 12; says(7, 1) = -103; says(7, 2) = 2; says(7, 3) = -103
            says(7, 4) = -103; says(7, 5) = -103; says(7, 6) = 0; says(7, 7) = 0
            many(0, 0) = 5; many(1, 0) = 2; many(2, 0) = 3; many(3, 0) = 1
            many(4, 0) = 1; many(5, 0) = 1; many(6, 0) = 2; many(7, 0) = 1
            """);
    }

    /** Terms 1, "(none is of KIND 0, 1, 2 itself)". */
    private static void kindsOfShips() {
        Edge.holds("KINDS of SHIPS", """
            ship(-1, 5) = -102; ship(0, 5) = -102; ship(1, 5) = -102; ship(2, 5) = -102; status(6) = 0
            ship(3, 5) = 0; ship(4, 5) = 1; ship(6, 5) = 2; ship(7, 5) = 3; ship(8, 5) = -102; ship(9, 5) = -102
            status(6) = 4; shipOf(0, 0) = 3; shipOf(1, 0) = 4; shipOf(2, 0) = 6; shipOf(3, 0) = 7; status(12) = 6
            """);
    }

    /** Terms 1, "BY RANK stand SHIPS of one HOUR: the greater KIND first". */
    private static void byRank() {
        Edge.holds("BY RANK", """
            ship(3, 9) = 0; ship(7, 8) = 1; ship(4, 9) = 2; ship(7, 10) = 3; ship(5, 9) = 4; ship(6, 9) = 5
            ship(7, 9) = 6
            shipAt(9, 0) = 6; shipAt(9, 1) = 5; shipAt(9, 2) = 4; shipAt(9, 3) = 2; shipAt(9, 4) = 0; shipAt(9, 5) = -1
            shipAt(8, 0) = 1; shipAt(8, 1) = -1; shipAt(10, 0) = 3; shipAt(10, 1) = -1
            """);
    }

    /** Terms 1, "BY RANK stand SHIPS of one HOUR: .. of one KIND the lesser number". */
    private static void byRankOfOneKind() {
        Edge.holds("BY RANK of one KIND", """
            ship(5, 9) = 0; ship(4, 9) = 1; ship(5, 8) = 2; ship(5, 9) = 3; ship(6, 9) = 4; ship(5, 9) = 5
            shipAt(9, 0) = 4; shipAt(9, 1) = 0; shipAt(9, 2) = 3; shipAt(9, 3) = 5; shipAt(9, 4) = 1; shipAt(9, 5) = -1
            """);
    }

    /** Terms 1, "THE BOAT: DUE at an HOUR (NONE at first) .. with OIL and COAL it brings (0 at first)". */
    private static void boatAtFirst() {
        Edge.holds("THE BOAT at first", """
            status(9) = -1; status(11) = 0; comes() = -1; pass(7) = 6; status(11) = 0; status(9) = -1
            boat(0, 7) = -1; pass(1) = 0; status(11) = 1; status(1) = 0; status(2) = 0; status(9) = 175
            boat(2, 1) = 0; boat(3, 1) = 0; boat(1, 1) = 168
            """);
    }

    /** Terms 1, "EVERY (1 to 999; 168 at first) HOURS". */
    private static void boatEvery() {
        Edge.holds("THE BOAT's EVERY", """
            boat(1, 167) = 168; boat(1, 168) = 167; boat(1, 169) = 168
            boat(1, -1) = -102; boat(1, 0) = -102; boat(1, 1) = 169; boat(1, 2) = 1
            boat(1, 998) = 2; boat(1, 999) = 998; boat(1, 1000) = -102; boat(1, 1001) = -102; boat(1, 999) = 999
            pass(6) = 6; boat(0, 6) = -1; pass(1) = 0; status(9) = 1005
            boat(1, 1) = 999; boat(0, 7) = 1005; pass(1) = 0; status(9) = 8; pass(1) = 0; status(9) = 9; status(11) = 3
            """);
    }
}
