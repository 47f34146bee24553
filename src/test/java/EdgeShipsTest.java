/** The edges that promises 17 and 22 to 24 name, a sentence or a part of one each. */
public final class EdgeShipsTest {
    public static void main(String[] args) {
        shipKind();
        shipHour();
        shipHourLater();
        shipNumber();
        shipRefused();
        shipOfWhich();
        shipOfWhat();
        shipOfBecame();
        shipOfMet();
        shipAtHour();
        shipAtPlace();
        shipAtOfOneHour();
        shipAtRefused();
        manyKinds();
        manyWhat();
        manyOrUnderIt();
        manyNotYet();
        Check.end();
    }

    /** Promise 17, "A SHIP of a KIND (3 to 7)": 2, 3, 4, 6, 7, 8. */
    private static void shipKind() {
        Edge.holds("ship's KIND", """
            ship(-1, 5) = -102; ship(0, 5) = -102; ship(2, 5) = -102; ship(3, 5) = 0; ship(4, 5) = 1; ship(6, 5) = 2
            ship(7, 5) = 3
            ship(8, 5) = -102; ship(-2147483648, 5) = -102; ship(2147483647, 5) = -102; status(6) = 4; status(12) = 6
            shipOf(0, 0) = 3; shipOf(1, 0) = 4; shipOf(2, 0) = 6; shipOf(3, 0) = 7
            """);
    }

    /** Promise 17, "for an HOUR (HOUR to HOUR and 999)": at HOUR 0. */
    private static void shipHour() {
        Edge.holds("ship's HOUR", """
            ship(3, -2147483648) = -102; ship(3, -1) = -102; ship(3, 0) = 0; ship(3, 1) = 1; ship(3, 998) = 2
            ship(3, 999) = 3
            ship(3, 1000) = -102; ship(3, 1001) = -102; ship(3, 2147483647) = -102; status(6) = 4; status(12) = 5
            shipOf(0, 1) = 0; shipOf(1, 1) = 1; shipOf(2, 1) = 998; shipOf(3, 1) = 999
            """);
    }

    /** Promise 17, "for an HOUR (HOUR to HOUR and 999)": at HOUR 7; one of HOUR itself is met when it passes. */
    private static void shipHourLater() {
        Edge.holds("ship's HOUR later", """
            pass(7) = 6; ship(3, 0) = -102; ship(3, 6) = -102; ship(3, 7) = 0; ship(3, 8) = 1; ship(3, 1005) = 2
            ship(3, 1006) = 3
            ship(3, 1007) = -102; status(6) = 4; shipOf(0, 2) = -1; pass(1) = 0; shipOf(0, 2) = 0; shipOf(1, 2) = -1
            ship(3, 7) = -102; ship(3, 1007) = 4; ship(3, 1008) = -102; status(12) = 5
            """);
    }

    /** Promise 17, "its number": 0, 1, and 198, 199, no 200. */
    private static void shipNumber() {
        Edge.holds("ship's number", Edge.each(0, 197, ship -> "ship(7, " + ship + ") = " + ship), """
            status(6) = 198; ship(3, 5) = 198; status(6) = 199; ship(3, 5) = 199; status(6) = 200; ship(3, 5) = -106
            status(6) = 200; ship(3, 5) = -106; shipAt(5, 0) = 5; shipAt(5, 1) = 198; shipAt(5, 2) = 199
            shipAt(5, 3) = -1
            pass(6) = 6; ship(3, 6) = -106; status(16) = 3
            """);
    }

    /** Promise 17, "BAD; FULL.": BAD also if it is FULL. */
    private static void shipRefused() {
        Edge.holds("ship refused", Edge.each(0, 198, ship -> "ship(5, 9) = " + ship), """
            ship(2, 9) = -102; ship(3, 1000) = -102; ship(3, 9) = 199; ship(2, 9) = -102; ship(8, 9) = -102
            ship(3, -1) = -102
            ship(3, 1000) = -102; ship(3, 999) = -106; ship(7, 0) = -106
            """, Edge.refusals(6, 0, 0, 0, 2));
    }

    /** Promise 22, "Of a SHIP .. BAD.": -1, the first, the last, one more; none where there are none. */
    private static void shipOfWhich() {
        Edge.holds("shipOf which", """
            shipOf(-1, 0) = -102; shipOf(0, 0) = -102; ship(4, 5) = 0; shipOf(-1, 0) = -102; shipOf(0, 0) = 4
            shipOf(1, 0) = -102
            ship(6, 5) = 1; ship(7, 5) = 2; shipOf(1, 0) = 6; shipOf(2, 0) = 7; shipOf(3, 0) = -102
            shipOf(2147483647, 0) = -102
            shipOf(-2147483648, 0) = -102; status(12) = 7
            """);
    }

    /** Promise 22, "KIND (what 0), .. what it met (3 ..": -1, 0, 3, 4. */
    private static void shipOfWhat() {
        Edge.holds("shipOf what", """
            ship(4, 5) = 0; shipOf(0, -1) = -102; shipOf(0, 0) = 4; shipOf(0, 1) = 5; shipOf(0, 2) = -1
            shipOf(0, 3) = -1
            shipOf(0, 4) = -102; shipOf(0, 2147483647) = -102; shipOf(0, -2147483648) = -102; shipOf(1, 4) = -102
            """, Edge.refusals(5, 0, 0, 0, 0));
    }

    /** Promise 22, "what became of it (2; 0 SAFE, 1 MISS, 2 WRECK; NONE)": the HOUR ahead, its own, the next. */
    private static void shipOfBecame() {
        Edge.holds("shipOf, what became", Edge.sky("s9", 1), "ship(5, 2) = 0; ship(4, 2) = 1; ship(6, 6) = 2\n", """
            pass(1) = 1; shipOf(0, 2) = -1; pass(1) = 1; shipOf(0, 2) = -1; shipOf(1, 2) = -1; pass(1) = 1
            shipOf(0, 2) = 2
            shipOf(1, 2) = 1; pass(3) = 3; shipOf(2, 2) = -1; pass(1) = 0; shipOf(2, 2) = 0; shipOf(0, 2) = 2
            shipOf(1, 2) = 1
            """, Edge.refusals(0, 0, 0, 0, 0));
    }

    /** Promise 22, "what it met (3; 0 to 3; NONE)": each of them. */
    private static void shipOfMet() {
        Edge.holds("shipOf, what it met", Edge.sky("f4", 1),
            "keeper(0) = 0; plan(1, 0) = -1; plan(2, 0) = -1; plan(3, 0) = -1\n",
            Edge.each(0, 3, hour -> "ship(3, " + hour + ") = " + hour), """
            shipOf(0, 3) = -1; pass(1) = 1; shipOf(0, 3) = 0; shipOf(1, 3) = -1; tell(3, 2) = 0; pass(1) = 0
            shipOf(1, 3) = 1
            tell(4, 2) = 0; pass(1) = 0; shipOf(2, 3) = 3; shipOf(3, 3) = -1; pass(1) = 1; shipOf(3, 3) = 2
            shipOf(0, 3) = 0
            """, Edge.refusals(0, 0, 0, 0, 0));
    }

    /** Promise 23, "BAD hour below 0": -1, 0, 1, and the farthest. */
    private static void shipAtHour() {
        Edge.holds("shipAt's hour", """
            shipAt(-1, 0) = -102; shipAt(0, 0) = -1; ship(3, 0) = 0; ship(3, 999) = 1; shipAt(-2147483648, 0) = -102
            shipAt(-1, 0) = -102; shipAt(0, 0) = 0; shipAt(1, 0) = -1; shipAt(998, 0) = -1; shipAt(999, 0) = 1
            shipAt(1000, 0) = -1; shipAt(2147483647, 0) = -1; status(12) = 3
            """);
    }

    /** Promise 23, "The i-th SHIP of an HOUR, BY RANK; NONE: none such": -1, the first, the last, one more. */
    private static void shipAtPlace() {
        Edge.holds("shipAt's place", """
            ship(3, 8) = 0; ship(5, 9) = 1; ship(7, 9) = 2; ship(3, 9) = 3; ship(7, 10) = 4
            shipAt(9, -1) = -1; shipAt(9, 0) = 2; shipAt(9, 1) = 1; shipAt(9, 2) = 3; shipAt(9, 3) = -1
            shipAt(9, 4) = -1
            shipAt(8, -1) = -1; shipAt(8, 0) = 0; shipAt(8, 1) = -1; shipAt(10, -1) = -1; shipAt(10, 0) = 4
            shipAt(10, 1) = -1
            shipAt(9, 2147483647) = -1; shipAt(9, -2147483648) = -1; shipAt(10, 2147483647) = -1; shipAt(10, -2) = -1
            pass(24) = 12; shipAt(9, 0) = 2; shipAt(9, 2) = 3; shipAt(9, 3) = -1
            """, Edge.refusals(0, 0, 0, 0, 0));
    }

    /** Promise 23, "The i-th SHIP of an HOUR, BY RANK": all 200 of one HOUR. */
    private static void shipAtOfOneHour() {
        Edge.holds("shipAt of one HOUR", Edge.each(0, 199, ship -> "ship(" + (3 + ship / 40) + ", 7) = " + ship), """
            shipAt(7, 0) = 160; shipAt(7, 39) = 199; shipAt(7, 40) = 120; shipAt(7, 159) = 79; shipAt(7, 160) = 0
            shipAt(7, 198) = 38; shipAt(7, 199) = 39; shipAt(7, 200) = -1; shipAt(6, 0) = -1; shipAt(8, 0) = -1
            shipAt(7, -1) = -1
            """);
    }

    /** Promise 23, "BAD hour below 0. (NONE isn't refused.)": whatever i is. */
    private static void shipAtRefused() {
        Edge.holds("shipAt refused", """
            ship(3, 0) = 0; shipAt(-1, -1) = -102; shipAt(-1, 5) = -102; shipAt(0, -1) = -1; shipAt(0, 5) = -1
            shipAt(0, 0) = 0
            """, Edge.refusals(2, 0, 0, 0, 0));
    }

    /** Promise 24, "of a KIND (0 to 7)": -1, 0, 7, 8. */
    private static void manyKinds() {
        Edge.holds("many's KIND", """
            ship(7, 6) = 0; pass(7) = 6; many(-1, 0) = -102; many(0, 0) = 1; many(1, 0) = 0; many(6, 0) = 1
            many(7, 0) = 1
            many(8, 0) = -102; many(2147483647, 0) = -102; many(-2147483648, 0) = -102; status(12) = 4
            """);
    }

    /** Promise 24, "became so (0 to 2). BAD.": -1, 0, 1, 2, 3; a SHIP of which nothing became isn't counted as NONE. */
    private static void manyWhat() {
        Edge.holds("many what", Edge.sky("s9", 1),
            "ship(4, 0) = 0; ship(5, 0) = 1; ship(5, 6) = 2; ship(5, 7) = 3; pass(7) = 6\n", """
            many(0, -1) = -102; many(0, 0) = 1; many(0, 1) = 1; many(0, 2) = 1; many(0, 3) = -102; many(8, 3) = -102
            many(0, 2147483647) = -102; many(0, -2147483648) = -102; status(12) = 5
            """);
    }

    /** Promise 24, "of a KIND (0 to 7) or of one under it": each KIND, with 1 to 5 SHIPS of 3 to 7. */
    private static void manyOrUnderIt() {
        Edge.holds("many or under it",
            Edge.each(0, 14, ship -> "ship(" + new int[] {3, 4, 4, 5, 5, 5, 6, 6, 6, 6, 7, 7, 7, 7, 7}[ship]
            + ", 12) = " + ship), "pass(13) = 6\n", """
            many(0, 0) = 15; many(1, 0) = 3; many(2, 0) = 12; many(3, 0) = 1; many(4, 0) = 2; many(5, 0) = 3
            many(6, 0) = 9
            many(7, 0) = 5; many(0, 1) = 0; many(0, 2) = 0
            """);
    }

    /** Promise 24, "How many SHIPS .. became so": none, one, and none that is for a later HOUR. */
    private static void manyNotYet() {
        Edge.holds("many not yet", """
            many(0, 0) = 0; many(0, 1) = 0; many(0, 2) = 0; ship(3, 5) = 0; ship(3, 6) = 1; pass(5) = 5; many(3, 1) = 0
            pass(1) = 1; many(3, 1) = 1; many(3, 0) = 0; pass(1) = 0; many(3, 1) = 1; many(3, 0) = 1; many(0, 2) = 0
            """);
    }
}
