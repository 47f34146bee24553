/** The edges that promises 18, 29, 38 and 39 name, a sentence or a part of one each. */
public final class EdgePassTest {
    public static void main(String[] args) {
        passHours();
        passMostHours();
        passTells();
        passOneByOne();
        unlitOfNone();
        unlitFirstAndLastHour();
        unlitAtDawnAndDusk();
        unlitOnceAtLeast();
        unlitOfAllHours();
        daysHowMany();
        daysAtMost();
        daysTell();
        daysMeetTheirShips();
        seedOfAnyNumber();
        seedAhead();
        Check.end();
    }

    /** Promise 18, "n HOURS (0 to 200) PASS .. BAD.": -1, 0, 1. */
    private static void passHours() {
        Edge.holds("pass's HOURS", """
            pass(-2147483648) = -102; pass(-1) = -102; status(0) = 0; pass(0) = 0; status(0) = 0; status(8) = 0
            pass(1) = 1; status(0) = 1; status(8) = 1; pass(2) = 2; status(0) = 3; status(12) = 2
            """);
    }

    /** Promise 18, "n HOURS (0 to 200) PASS .. BAD.": 199, 200, 201. */
    private static void passMostHours() {
        Edge.holds("pass's most HOURS", """
            pass(201) = -102; pass(2147483647) = -102; status(0) = 0; pass(199) = 102; status(0) = 199; pass(200) = 96
            status(0) = 399; pass(201) = -102; pass(202) = -102; status(0) = 399; status(8) = 198; status(12) = 4
            """);
    }

    /** Promise 18, "how many of them were DARK, but not LIT": of DARK ones LIT and not, of those by day none. */
    private static void passTells() {
        Edge.holds("pass tells", """
            keeper(0) = 0; tell(3, 3) = 0; plan(2, 0) = -1; plan(5, 0) = -1; pass(2) = 2; pass(2) = 0; pass(2) = 1
            pass(12) = 0
            pass(2) = 2; status(1) = 0; status(8) = 5; pass(0) = 0; pass(4) = 4; pass(1) = 1
            """);
    }

    /** Promise 18, "n HOURS (0 to 200) PASS": one by one they are as all at once. */
    private static void passOneByOne() {
        String light = "keeper(0) = 0; keeper(2) = 1; tell(3, 9) = 0\n" + Edge.watch(0, 0, 3) + Edge.watch(1, 18, 23);
        String behind = "status(0) = 24; status(1) = 0; status(8) = 3; keeperOf(0, 1) = 0; keeperOf(1, 1) = 6; status(7) = 10";
        Edge.holds("pass at once", light, "pass(24) = 3\n", behind);
        Edge.holds("pass one by one", light, Edge.times(5, "pass(1) = 0"), "pass(1) = 1\n",
            Edge.times(12, "pass(1) = 0"),
            Edge.times(4, "pass(1) = 0"), Edge.times(2, "pass(1) = 1"), behind);
    }

    /**
     * Promise 29, "HOURS (bits, 0 to 23) of the day of which one at least was UNLIT": none by day, none of LIT ones.
     */
    private static void unlitOfNone() {
        Edge.holds("unlit() of none", """
            unlit() = 0; tell(0, 0) = 6; pass(18) = 0; unlit() = 0; keeper(0) = 0; plan(18, 0) = -1; tell(3, 2) = 0
            pass(2) = 0
            unlit() = 0; pass(1) = 1; unlit() = 1048576
            """);
    }

    /** Promise 29, "(bits, 0 to 23)": the bits of 0, 1, 22 and 23; 24 is 0 again. */
    private static void unlitFirstAndLastHour() {
        Edge.holds("unlit() of the first hour and the last", """
            tell(0, 1) = 6; tell(1, 22) = 18; pass(1) = 1; unlit() = 1; pass(21) = 0; unlit() = 1; pass(1) = 1
            unlit() = 4194305
            pass(1) = 1; unlit() = 12582913; pass(1) = 1; unlit() = 12582913; tell(0, 2) = 1; pass(1) = 1
            unlit() = 12582915
            """);
        Edge.holds("unlit() of hour 24", """
            tell(0, 0) = 6; tell(1, 24) = 18; pass(24) = 0; unlit() = 0; tell(0, 1) = 0; pass(1) = 1; unlit() = 1
            pass(1) = 0
            tell(1, 23) = 24; pass(21) = 0; unlit() = 1; pass(1) = 1; unlit() = 8388609
            """);
    }

    /** Promise 29, "HOURS .. of which one at least was UNLIT": the hours beside DAWN and DUSK. */
    private static void unlitAtDawnAndDusk() {
        Edge.holds("unlit() at DAWN and DUSK", """
            pass(5) = 5; unlit() = 31; pass(1) = 1; unlit() = 63; pass(1) = 0; unlit() = 63; pass(11) = 0; unlit() = 63
            pass(1) = 1; unlit() = 262207; pass(5) = 5; unlit() = 16515135; pass(24) = 12; unlit() = 16515135
            """);
    }

    /** Promise 29, "of which one at least was UNLIT": once, however often that hour was LIT. */
    private static void unlitOnceAtLeast() {
        Edge.holds("unlit() once at least", """
            keeper(0) = 0; plan(0, 0) = -1; tell(3, 9) = 0; pass(1) = 0; unlit() = 0; pass(2) = 1; unlit() = 4
            pass(21) = 9
            plan(0, -1) = 0; pass(1) = 1; unlit() = 16515133; plan(0, 0) = -1; pass(24) = 11; unlit() = 16515135
            """);
    }

    /** Promise 29, "(bits, 0 to 23)": all hours that can be DARK. */
    private static void unlitOfAllHours() {
        Edge.holds("unlit() of all hours",
            "tell(0, 12) = 6; tell(1, 13) = 18; pass(24) = 23; unlit() = 16773119; pass(200) = 192\n",
            "unlit() = 16773119");
    }

    /** Promise 38, "DAYS by draws, n (1 to 60) .. BAD.": -1, 0, 1, 2. */
    private static void daysHowMany() {
        Edge.holds("days", """
            days(-2147483648) = -102; days(-1) = -102; days(0) = -102; status(0) = 0; status(18) = 1; days(1) = 1
            status(0) = 1
            status(18) = 1103527590; status(6) = 0; days(2) = 2; status(0) = 3; status(6) = 2; shipOf(0, 0) = 6
            shipOf(0, 1) = 4
            shipOf(1, 0) = 3; shipOf(1, 1) = 4; days(0) = -102; status(12) = 4
            """);
    }

    /** Promise 38, "DAYS by draws, n (1 to 60) .. BAD.": 59, 60, 61. */
    private static void daysAtMost() {
        Edge.holds("59 days",
            "days(61) = -102; days(2147483647) = -102; status(18) = 1; days(59) = 30; status(0) = 59\n",
            "status(18) = 1452336924; status(6) = 16; shipOf(15, 0) = 7; shipOf(15, 1) = 64; days(61) = -102; status(12) = 3");
        Edge.holds("60 days",
            "days(61) = -102; days(60) = 30; status(0) = 60; status(18) = -574283995; status(6) = 16\n",
            "days(61) = -102; status(0) = 60; status(18) = -574283995; status(12) = 2");
    }

    /** Promise 38, "how many of the HOURS were DARK, but not LIT": LIT and not, by day. */
    private static void daysTell() {
        Edge.holds("days tell", """
            keeper(0) = 0; plan(2, 0) = -1; tell(3, 9) = 0; days(2) = 2; days(1) = 0; days(1) = 0; days(1) = 1
            days(1) = 1
            days(12) = 0; days(1) = 1; status(0) = 19; status(8) = 5; unlit() = 262195; status(1) = 7
            """);
    }

    /** Promise 38, "DAYS by draws": a SHIP that comes for HOUR itself is met in it; SEED 136 draws one, 94 another. */
    private static void daysMeetTheirShips() {
        Edge.holds("days meet their SHIPS", """
            seed(136) = 1; days(1) = 1; status(6) = 1; shipOf(0, 0) = 3; shipOf(0, 1) = 0; shipOf(0, 2) = 1
            shipOf(0, 3) = 0
            seed(94) = -372217849; days(1) = 1; status(6) = 2; shipOf(1, 0) = 7; shipOf(1, 1) = 24; shipOf(1, 2) = -1
            pass(22) = 10; shipOf(1, 2) = -1; pass(1) = 1; shipOf(1, 2) = 1
            """);
    }

    /** Promise 39, "SEED becomes v": the least int, -1, 0, 1, the greatest. */
    private static void seedOfAnyNumber() {
        Edge.holds("seed", """
            seed(-2147483648) = 1; status(18) = -2147483648; seed(-1) = -2147483648; status(18) = -1; seed(0) = -1
            status(18) = 0
            seed(1) = 0; status(18) = 1; seed(2147483647) = 1; status(18) = 2147483647; seed(-102) = 2147483647
            seed(-106) = -102; seed(5) = -106
            """, Edge.refusals(0, 0, 0, 0, 0));
    }

    /** Promise 39, "the one ahead": the first, one that was told, one that DRAWS have made. */
    private static void seedAhead() {
        Edge.holds("seed ahead", """
            seed(9) = 1; seed(9) = 9; seed(1) = 9; days(1) = 1; seed(1) = 1103527590; pass(5) = 5; seed(1) = 1
            days(2) = 0
            seed(4) = -999580867; status(18) = 4
            """);
    }
}
