/** The edges that promises 9 to 11, 19 and 20 name, a sentence or a part of one each. */
public final class EdgeSkyTest {
    public static void main(String[] args) {
        feedLetter();
        feedEveryLetter();
        feedSize();
        feedRefused();
        wipeSize();
        wipeOfAFullTape();
        skyRuns();
        skyFault();
        skyFaultIsRefused();
        skyFaultAtTheEnds();
        skyOfAFullTape();
        skyEmptiesTheTape();
        skyStaysIfRefused();
        weatherHour();
        weatherOfTheFarthestHour();
        weatherOfHoursPassed();
        darkHour();
        darkAtDawnAndDusk();
        Check.end();
    }

    /** Promise 9, "THE TAPE gets one byte (0 to 255) behind it: its size. BAD": beside the least and the greatest. */
    private static void feedLetter() {
        Edge.holds("feed's byte", """
            feed(-2147483648) = -102; feed(-1) = -102; status(17) = 0; feed(0) = 1; feed(1) = 2; feed(254) = 3
            feed(255) = 4
            feed(256) = -102; feed(257) = -102; feed(2147483647) = -102; status(17) = 4; status(12) = 5; wipe() = 4
            """);
    }

    /** Promise 9, "one byte (0 to 255)": a byte of another number isn't the same, though its lowest bits are. */
    private static void feedEveryLetter() {
        Edge.holds("feed's lowest bits", """
            feed(355) = -102; feed(305) = -102; feed(-157) = -102; status(17) = 0; sky() = -300
            feed(99) = 1; feed(49) = 2; sky() = 1; feed(227) = 1; feed(49) = 2; sky() = -300; status(12) = 5
            """);
    }

    /** Promise 9, "its size": 1, 2, and 249, 250, no 251. */
    private static void feedSize() {
        Edge.holds("feed's size", "feed(99) = 1; status(17) = 1; feed(49) = 2; status(17) = 2\n",
            Edge.each(3, 248, size -> "feed(0) = " + size),
            "feed(0) = 249; status(17) = 249; feed(0) = 250; status(17) = 250\n",
            "feed(0) = -106; status(17) = 250; feed(0) = -106; status(17) = 250; wipe() = 250; feed(0) = 1; status(16) = 2");
    }

    /** Promise 9, "BAD; FULL.": BAD also if it is FULL. */
    private static void feedRefused() {
        Edge.holds("feed refused", Edge.each(1, 249, size -> "feed(32) = " + size), """
            feed(256) = -102; feed(-1) = -102; feed(255) = 250; feed(256) = -102; feed(-1) = -102; feed(0) = -106
            feed(255) = -106
            """, Edge.refusals(4, 0, 0, 0, 2), "status(17) = 250");
    }

    /** Promise 10, "THE TAPE is empty: its size ahead": of none, one, two. */
    private static void wipeSize() {
        Edge.holds("wipe", """
            wipe() = 0; status(17) = 0; feed(99) = 1; wipe() = 1; status(17) = 0; wipe() = 0; feed(99) = 1; feed(49) = 2
            wipe() = 2; status(17) = 0; sky() = -300; feed(102) = 1; feed(51) = 2; sky() = 1; weather(0) = 1; wipe() = 0
            """);
    }

    /** Promise 10, "THE TAPE is empty: its size ahead": of one that is full. */
    private static void wipeOfAFullTape() {
        Edge.holds("wipe of a full TAPE", Edge.each(1, 249, size -> "feed(1) = " + size), "wipe() = 249\n",
            Edge.each(1, 250, size -> "feed(1) = " + size),
            "feed(1) = -106; wipe() = 250; wipe() = 0; feed(1) = 1; status(16) = 1");
    }

    /** Promise 11, "THE TAPE is THE SKY then: how many RUNS": 1, 2, 19, 20, no 21. */
    private static void skyRuns() {
        Edge.holds("sky's RUNS", Edge.sky("f2", 1), "status(10) = 1\n", Edge.sky("f2 c2", 2),
            "status(10) = 2; weather(2) = 0\n",
            Edge.sky("f1" + " s1".repeat(18), 19), "status(10) = 19; weather(18) = 2; weather(19) = 1\n",
            Edge.sky("f1" + " s1".repeat(19), 20), "status(10) = 20; weather(19) = 2; weather(20) = 1\n",
            Edge.sky("f1" + " s1".repeat(20), -360), "status(10) = 20; weather(20) = 1", Edge.sky("c1", 1),
            "status(10) = 1");
    }

    /** Promise 11, "-300 less the FAULT": 0, 1, 2, 3 and on. */
    private static void skyFault() {
        Edge.holds("sky's FAULT", Edge.sky("", -300), Edge.sky("9", -300), Edge.sky("c", -301), Edge.sky("cc", -301),
            Edge.sky("c5c", -302), Edge.sky("c55c", -303), Edge.sky("c5 ", -303), Edge.sky("c5 5", -303),
            Edge.sky("c5 c", -304),
            Edge.sky("c5 c0", -304), Edge.sky("c5 c5.", -305), Edge.sky("c5 c55.", -306), Edge.sky("c5 c5", 2));
    }

    /** Promise 11, "(that is refused, too: BAD)": counted once a FAULT, and not where there is none. */
    private static void skyFaultIsRefused() {
        Edge.holds("a FAULT is refused", Edge.refusals(0, 0, 0, 0, 0), "sky() = -300\n", Edge.refusals(1, 0, 0, 0, 0),
            Edge.sky("c1", 1), Edge.refusals(1, 0, 0, 0, 0), Edge.sky("c1 ", -303), Edge.refusals(2, 0, 0, 0, 0),
            Edge.sky("s0", -301), Edge.refusals(3, 0, 0, 0, 0));
    }

    /** Promise 11, "-300 less the FAULT": the farthest, a letter behind twenty RUNS of two digits. */
    private static void skyFaultAtTheEnds() {
        Edge.holds("the farthest FAULT", Edge.sky("c11" + " c11".repeat(19), 20),
            Edge.sky("c11" + " c11".repeat(19) + " ", -380),
            Edge.sky("c11" + " c11".repeat(19) + "x", -379), Edge.sky("c11" + " c11".repeat(20), -380),
            "status(10) = 20");
        Edge.holds("the FAULT ahead of the farthest", Edge.sky("c11" + " c11".repeat(18) + " c00", -377),
            Edge.sky("c11" + " c11".repeat(18) + " c", -377), Edge.sky("c11" + " c11".repeat(18) + " ", -376),
            Edge.sky("c11" + " c11".repeat(18), 19), "status(10) = 19");
    }

    /** Promise 11, "THE TAPE is THE SKY then": one of 249 bytes and of 250, with blanks behind its RUNS. */
    private static void skyOfAFullTape() {
        Edge.holds("sky of a full TAPE", Edge.fed("c1 f2"), Edge.each(6, 249, size -> "feed(32) = " + size),
            "sky() = -306\n",
            Edge.fed("c1 f2"), Edge.each(6, 250, size -> "feed(32) = " + size),
            "sky() = -306; status(17) = 0; status(10) = 0");
    }

    /** Promise 11, "THE TAPE is empty then, in any case". */
    private static void skyEmptiesTheTape() {
        Edge.holds("THE TAPE behind sky", Edge.fed("c1"),
            "status(17) = 2; sky() = 1; status(17) = 0; wipe() = 0; sky() = -300\n",
            Edge.fed("c1x"), "status(17) = 3; sky() = -302; status(17) = 0; wipe() = 0; sky() = -300\n", Edge.fed("f1"),
            "sky() = 1; weather(0) = 1; sky() = -300; status(17) = 0; feed(99) = 1");
    }

    /** Promise 11, "(that is refused, too": THE SKY stays as it was, whatever RUNS were read ahead of the FAULT. */
    private static void skyStaysIfRefused() {
        Edge.holds("THE SKY behind a FAULT", Edge.sky("c9 f9 x", -306), "status(10) = 0; weather(9) = 0\n",
            Edge.sky("f1 s2", 2),
            "weather(0) = 1; weather(1) = 2; weather(2) = 2; weather(3) = 1\n", Edge.sky("c9 s9 f9 c9 ", -312),
            "status(10) = 2; weather(0) = 1; weather(1) = 2; weather(2) = 2; weather(3) = 1\n",
            "sky() = -300; status(10) = 2\n",
            "weather(0) = 1; weather(2) = 2; weather(3) = 1; pass(2) = 2; keeperOf(0, 0) = -102");
    }

    /** Promise 19, "WEATHER of an HOUR (0 on). BAD.": -1, 0, 1, and where a RUN ends. */
    private static void weatherHour() {
        Edge.holds("weather's HOUR", "weather(-1) = -102; weather(0) = 0; weather(1) = 0\n", Edge.sky("f2 s1 c3", 3),
            """
            weather(-2147483648) = -102; weather(-6) = -102; weather(-1) = -102; weather(0) = 1; weather(1) = 1
            weather(2) = 2
            weather(3) = 0; weather(4) = 0; weather(5) = 0; weather(6) = 1; weather(7) = 1; weather(8) = 2
            weather(9) = 0
            status(12) = 4
            """);
    }

    /** Promise 19, "WEATHER of an HOUR (0 on)": up to the greatest int, which is 127 and whole rounds of 1980 HOURS. */
    private static void weatherOfTheFarthestHour() {
        Edge.holds("weather of the farthest HOUR", Edge.sky("s99 f29" + " c99".repeat(17) + " f99", 20), """
            weather(98) = 2; weather(99) = 1; weather(127) = 1; weather(128) = 0; weather(1810) = 0; weather(1811) = 1
            weather(1909) = 1; weather(1910) = 2; weather(2008) = 2; weather(2009) = 1; weather(2147483647) = 1
            """, Edge.sky("f1 s1", 2), "weather(2147483646) = 1; weather(2147483647) = 2");
    }

    /** Promise 19, "WEATHER of an HOUR (0 on)": of HOUR, of those ahead of it and behind it. */
    private static void weatherOfHoursPassed() {
        Edge.holds("weather of HOURS passed", Edge.sky("f3 s3", 2),
            "weather(0) = 1; pass(4) = 4; weather(0) = 1; weather(2) = 1\n",
            "weather(3) = 2; weather(4) = 2; weather(5) = 2; weather(6) = 1; weather(-1) = -102");
    }

    /** Promise 20, "Whether an HOUR (0 on) is DARK (1, 0). BAD.": -1, 0, 1. */
    private static void darkHour() {
        Edge.holds("dark's HOUR", """
            dark(-2147483648) = -102; dark(-24) = -102; dark(-1) = -102; dark(0) = 1; dark(1) = 1; tell(0, 1) = 6
            dark(-1) = -102; dark(0) = 1; dark(1) = 0; tell(0, 0) = 1; dark(-1) = -102; dark(0) = 0; dark(1) = 0
            status(12) = 5
            """);
    }

    /**
     * Promise 20, "Whether an HOUR (0 on) is DARK": DAWN and DUSK of this day, of the next, of the last there can be.
     */
    private static void darkAtDawnAndDusk() {
        Edge.holds("dark at DAWN and DUSK", """
            dark(5) = 1; dark(6) = 0; dark(17) = 0; dark(18) = 1; dark(23) = 1; dark(24) = 1; dark(29) = 1; dark(30) = 0
            dark(41) = 0; dark(42) = 1; dark(2147483645) = 1; dark(2147483646) = 0; dark(2147483647) = 0
            pass(30) = 18; dark(5) = 1; dark(6) = 0; dark(29) = 1; dark(30) = 0; tell(0, 5) = 6; dark(29) = 0
            dark(28) = 1
            tell(1, 17) = 18; dark(16) = 0; dark(17) = 1
            """);
    }
}
