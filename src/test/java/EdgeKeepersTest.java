/** The edges that promises 12 to 16 and 21 name, a sentence or a part of one each. */
public final class EdgeKeepersTest {
    public static void main(String[] args) {
        keeperRank();
        keeperNumber();
        keeperRefused();
        planHour();
        planKeeper();
        planOfNoKeepers();
        planWhoWasThere();
        plansShelf();
        plansElements();
        plansKeepers();
        plansFirstAndLast();
        plansOfEachSort();
        plansOfNoKeepers();
        plansRefused();
        tellWhat();
        tellDawn();
        tellDusk();
        tellWick();
        tellOil();
        tellCoal();
        boatWhat();
        boatDue();
        boatDueNone();
        boatEvery();
        boatOil();
        boatCoal();
        keeperOfWhom();
        keeperOfWhat();
        keeperOfRanks();
        keeperOfTired();
        keeperOfHours();
        keeperOfTendedAndAsleep();
        Check.end();
    }

    /** Promise 12, "BAD rank": -1, HEAD, HAND, BOY, 3. */
    private static void keeperRank() {
        Edge.holds("keeper's rank", """
            keeper(-2147483648) = -102; keeper(-1) = -102; status(5) = 0; keeper(0) = 0; keeper(1) = 1; keeper(2) = 2
            keeper(3) = -102; keeper(4) = -102; keeper(2147483647) = -102; status(5) = 3; status(12) = 5
            keeperOf(0, 0) = 0; keeperOf(1, 0) = 1; keeperOf(2, 0) = 2; keeperOf(3, 0) = -102
            """);
    }

    /** Promise 12, "A KEEPER: his number": 0, 1, and 4, 5, no 6. */
    private static void keeperNumber() {
        Edge.holds("keeper's number", """
            keeper(2) = 0; status(5) = 1; keeper(2) = 1; status(5) = 2; keeper(0) = 2; keeper(1) = 3; keeper(0) = 4
            status(5) = 5
            keeper(2) = 5; status(5) = 6; keeper(2) = -106; status(5) = 6; keeperOf(5, 0) = 2; plan(0, 5) = -1
            plan(0, 6) = -102
            """);
    }

    /** Promise 12, "BAD rank; FULL.": BAD also if it is FULL. */
    private static void keeperRefused() {
        Edge.holds("keeper refused", Edge.each(0, 4, k -> "keeper(1) = " + k), """
            keeper(-1) = -102; keeper(3) = -102; keeper(0) = 5; keeper(-1) = -102; keeper(3) = -102; keeper(0) = -106
            keeper(2) = -106; status(5) = 6
            """, Edge.refusals(4, 0, 0, 0, 2));
    }

    /** Promise 13, "for an hour (0 to 23)": -1, 0, 1, 22, 23, 24. */
    private static void planHour() {
        Edge.holds("plan's hour", """
            keeper(0) = 0; plan(-1, 0) = -102; plan(0, 0) = -1; plan(1, 0) = -1; plan(22, 0) = -1; plan(23, 0) = -1
            plan(24, 0) = -102; plan(-2147483648, 0) = -102; plan(2147483647, -1) = -102; plan(-1, -1) = -102
            plan(24, -1) = -102
            keeperOf(0, 3) = 4; plan(0, -1) = 0; plan(2, -1) = -1; plan(21, -1) = -1; plan(23, -1) = 0; status(12) = 6
            """);
    }

    /** Promise 13, "THE PLAN has a KEEPER (NONE: none)": -2, NONE, the first, the last, one more. */
    private static void planKeeper() {
        Edge.holds("plan's KEEPER", """
            keeper(0) = 0; keeper(1) = 1; keeper(2) = 2; plan(5, -2) = -102; plan(5, -1) = -1; plan(5, 0) = -1
            plan(5, 1) = 0
            plan(5, 2) = 1; plan(5, 3) = -102; plan(5, -2) = -102; plan(5, 2147483647) = -102
            plan(5, -2147483648) = -102
            plan(5, -1) = 2; plan(5, -1) = -1; keeper(0) = 3; plan(5, 3) = -1; plan(5, 4) = -102; plan(5, 3) = 3
            status(12) = 6
            """);
    }

    /** Promise 13, "BAD": where there are no KEEPERS. */
    private static void planOfNoKeepers() {
        Edge.holds("plan of no KEEPERS", """
            plan(5, -2) = -102; plan(5, -1) = -1; plan(5, 0) = -102; plan(5, 1) = -102; keeper(2) = 0; plan(5, 0) = -1
            plan(5, 1) = -102; plan(5, -1) = 0; status(12) = 4
            """);
    }

    /** Promise 13, "who was there; NONE. .. (NONE isn't refused.)". */
    private static void planWhoWasThere() {
        Edge.holds("who was there", """
            keeper(0) = 0; keeper(0) = 1; plan(7, -1) = -1; plan(7, 0) = -1; plan(7, 0) = 0; plan(7, 1) = 0
            plan(7, 1) = 1
            plan(7, 2) = -102; plan(7, -1) = 1; plan(7, -1) = -1; plan(6, -1) = -1; plan(8, -1) = -1
            """, Edge.refusals(1, 0, 0, 0, 0));
    }

    /** Promise 14, "BAD SHELF": -1, 0, 7, 8. */
    private static void plansShelf() {
        Edge.holds("plans' SHELF", "keeper(0) = 0; row(0, 0, 24) = 1; row(7, 0, 24) = 1; set(7, 3, -1) = 1\n", """
            plans(-1) = -102; keeperOf(0, 3) = 0; plans(0) = 1; keeperOf(0, 3) = 24; plans(7) = 1; keeperOf(0, 3) = 23
            plans(8) = -102; plans(2147483647) = -102; plans(-2147483648) = -102; keeperOf(0, 3) = 23; status(12) = 4
            """);
    }

    /** Promise 14, "that of the first 24 elements .. BAD: fewer elements": 0, 23, 24, 25, 40. */
    private static void plansElements() {
        Edge.holds("plans' elements", """
            keeper(0) = 0; row(0, 2, 0) = 1; plans(0) = -102; row(0, 2, 23) = 1; plans(0) = -102; keeperOf(0, 3) = 0
            row(0, 2, 24) = 1; plans(0) = 1; keeperOf(0, 3) = 24; row(0, 2, 25) = 1; set(0, 23, -1) = 1
            set(0, 24, 9) = 1
            plans(0) = 1; keeperOf(0, 3) = 23; plan(23, -1) = -1; row(0, 2, 40) = 1; set(0, 24, -2) = 1
            set(0, 39, 6) = 1
            plans(0) = 1; keeperOf(0, 3) = 24; status(12) = 2
            """);
    }

    /** Promise 14, "(KEEPERS, or NONE) .. BAD: .. no such KEEPER": -2, NONE, the first, the last, one more. */
    private static void plansKeepers() {
        Edge.holds("plans' KEEPERS",
            "keeper(0) = 0; keeper(1) = 1; row(0, 3, 24) = 1; plan(9, 1) = -1; plan(10, 1) = -1\n", """
            set(0, 9, -2) = 1; plans(0) = -102; keeperOf(0, 3) = 0; set(0, 9, -1) = 1; plans(0) = 1; plan(9, -1) = -1
            set(0, 9, 0) = 1; plans(0) = 1; keeperOf(0, 3) = 24; set(0, 9, 1) = 1; plans(0) = 1; keeperOf(1, 3) = 1
            set(0, 9, 2) = 1; plans(0) = -102; keeperOf(1, 3) = 1; set(0, 9, 4294967296) = 1; plans(0) = -102
            set(0, 9, 4294967295) = 1; plans(0) = -102; set(0, 9, -9223372036854775808) = 1; plans(0) = -102
            keeper(2) = 2; set(0, 9, 2) = 1; plans(0) = 1; keeperOf(2, 3) = 1; set(0, 9, 3) = 1; plans(0) = -102
            status(12) = 6
            """);
    }

    /** Promise 14, "BAD: .. no such KEEPER": the first element and the 24th, the 25th isn't looked at. */
    private static void plansFirstAndLast() {
        Edge.holds("plans' first and last", "keeper(0) = 0; row(0, 2, 25) = 1\n", """
            set(0, 0, 1) = 1; plans(0) = -102; set(0, 0, 0) = 1; set(0, 23, 1) = 1; plans(0) = -102; set(0, 23, -2) = 1
            plans(0) = -102; keeperOf(0, 3) = 0; set(0, 23, 0) = 1; set(0, 24, 1) = 1; plans(0) = 1; keeperOf(0, 3) = 24
            set(0, 0, -1) = 1; plans(0) = 1; plan(0, -1) = -1; plan(1, -1) = 0; plan(23, -1) = 0; status(12) = 3
            """);
    }

    /** Promise 14, "of the ROW in SHELF s": of each SORT; of booleans the KEEPERS 0 and 1 alone. */
    private static void plansOfEachSort() {
        Edge.holds("plans of each SORT", "keeper(0) = 0\n",
            Edge.each(0, 4, sort -> "row(" + sort + ", " + sort + ", 24) = 1"),
            Edge.each(0, 4, sort -> "set(" + sort + ", " + sort + ", -1) = 1"), """
            plans(0) = 1; plan(0, 0) = -1; plans(1) = 1; plan(1, 0) = -1; plans(2) = 1; plan(2, 0) = -1; plans(3) = 1
            plan(3, 0) = -1; element(4, 4) = 1; plans(4) = -102; keeperOf(0, 3) = 24; keeper(0) = 1; plans(4) = 1
            plan(4, 0) = 1; plan(3, 0) = 0; keeperOf(0, 3) = 24; status(12) = 1
            """);
    }

    /** Promise 14, "KEEPERS, or NONE": where there are no KEEPERS. */
    private static void plansOfNoKeepers() {
        Edge.holds("plans of no KEEPERS", "row(0, 2, 24) = 1; plans(0) = -102\n",
            Edge.each(0, 22, i -> "set(0, " + i + ", -1) = 1"),
            "plans(0) = -102; set(0, 23, -1) = 1; plans(0) = 1; status(12) = 2; keeper(0) = 0; keeperOf(0, 3) = 0");
    }

    /** Promise 14, "BAD SHELF; OTHER; NOTHING; BAD: fewer elements, no such KEEPER." */
    private static void plansRefused() {
        Edge.holds("plans refused",
            "keeper(0) = 0; plan(3, 0) = -1; ship(3, 5) = 0; show(0, 0) = 1; row(2, 0, 23) = 1\n", """
            plans(8) = -102; plans(0) = -103; plans(1) = -104; plans(2) = -102; keeperOf(0, 3) = 1; show(0, -1) = 1
            plans(0) = -104; row(0, 0, 24) = 1; plans(0) = 1; keeperOf(0, 3) = 24
            """, Edge.refusals(2, 1, 2, 0, 0));
    }

    /** Promise 15, "DAWN (what 0), DUSK (1), WICK (2), OIL (3), COAL (4 ..": -1 and 5 are none. */
    private static void tellWhat() {
        Edge.holds("tell's what", """
            tell(-1, 1) = -102; tell(0, 5) = 6; tell(1, 20) = 18; tell(2, 2) = 1; tell(3, 8) = 0; tell(4, 9) = 0
            tell(5, 1) = -102
            tell(-2147483648, 1) = -102; tell(2147483647, 1) = -102; status(1) = 8; status(2) = 9
            tell(0, 6) = 5; tell(1, 18) = 20; tell(2, 1) = 2; tell(3, 0) = 8; tell(4, 0) = 9; status(12) = 4
            """);
    }

    /** Promise 15, "DAWN (what 0)": 0 to 12. */
    private static void tellDawn() {
        Edge.holds("tell DAWN", """
            tell(0, -1) = -102; tell(0, 0) = 6; tell(0, 1) = 0; tell(0, 11) = 1; tell(0, 12) = 11; tell(0, 13) = -102
            tell(0, 2147483647) = -102; tell(0, -2147483648) = -102; dark(11) = 1; dark(12) = 0; tell(0, 12) = 12
            status(12) = 4
            """);
    }

    /** Promise 15, "DUSK (1)": 13 to 24. */
    private static void tellDusk() {
        Edge.holds("tell DUSK", """
            tell(1, 12) = -102; tell(1, 13) = 18; tell(1, 14) = 13; tell(1, 23) = 14; tell(1, 24) = 23
            tell(1, 25) = -102
            tell(1, 2147483647) = -102; tell(1, -2147483648) = -102; dark(23) = 0; dark(24) = 1; tell(1, 24) = 24
            status(12) = 4
            """);
    }

    /** Promise 15, "WICK (2)": 1 to 4. */
    private static void tellWick() {
        Edge.holds("tell WICK", """
            tell(2, 0) = -102; tell(2, 1) = 1; tell(2, 2) = 1; tell(2, 3) = 2; tell(2, 4) = 3; tell(2, 5) = -102
            tell(2, -1) = -102; tell(2, 2147483647) = -102; tell(2, -2147483648) = -102; tell(2, 4) = 4; status(12) = 5
            """);
    }

    /** Promise 15, "OIL (3), COAL (4; 0 to 9999 both) is v: what it was": OIL. */
    private static void tellOil() {
        Edge.holds("tell OIL", """
            tell(3, -1) = -102; tell(3, 0) = 0; tell(3, 1) = 0; tell(3, 9998) = 1; tell(3, 9999) = 9998
            tell(3, 10000) = -102
            status(1) = 9999; tell(3, 2147483647) = -102; tell(3, -2147483648) = -102; tell(3, 5) = 9999; status(1) = 5
            status(2) = 0; status(12) = 4
            """);
    }

    /** Promise 15, "OIL (3), COAL (4; 0 to 9999 both) is v: what it was": COAL. */
    private static void tellCoal() {
        Edge.holds("tell COAL", """
            tell(4, -1) = -102; tell(4, 0) = 0; tell(4, 1) = 0; tell(4, 9998) = 1; tell(4, 9999) = 9998
            tell(4, 10000) = -102
            status(2) = 9999; tell(4, 2147483647) = -102; tell(4, -2147483648) = -102; tell(4, 5) = 9999; status(2) = 5
            status(1) = 0; status(12) = 4
            """);
    }

    /** Promise 16, "DUE (what 0 ..), EVERY (1), OIL (2), COAL (3 ..": -1 and 4 are none. */
    private static void boatWhat() {
        Edge.holds("boat's what", """
            boat(-1, 1) = -102; boat(0, 1) = -1; boat(1, 2) = 168; boat(2, 3) = 0; boat(3, 4) = 0; boat(4, 1) = -102
            boat(-1, -1) = -102; boat(4, -1) = -102; boat(-2147483648, 1) = -102; boat(2147483647, 1) = -102
            boat(0, 0) = 1; boat(1, 1) = 2; boat(2, 0) = 3; boat(3, 0) = 4; status(12) = 6
            """);
    }

    /** Promise 16, "(what 0; NONE, or HOUR to HOUR and 9999)": at HOUR 0, and at HOUR 7. */
    private static void boatDue() {
        Edge.holds("boat's DUE", """
            boat(0, -2) = -102; boat(0, -1) = -1; boat(0, 0) = -1; boat(0, 1) = 0; boat(0, 9998) = 1
            boat(0, 9999) = 9998
            boat(0, 10000) = -102; status(9) = 9999; pass(7) = 6; boat(0, 6) = -102; boat(0, 0) = -102; status(9) = 9999
            boat(0, 7) = 9999; boat(0, 8) = 7; boat(0, 10005) = 8; boat(0, 10006) = 10005; boat(0, 10007) = -102
            boat(0, 2147483647) = -102; boat(0, -2147483648) = -102; status(9) = 10006; status(12) = 7
            """);
    }

    /** Promise 16, "v: what it was; NONE. BAD. (NONE isn't refused.)": NONE is DUE's alone. */
    private static void boatDueNone() {
        Edge.holds("boat's NONE", """
            boat(0, -1) = -1; boat(0, 5) = -1; boat(0, -1) = 5; status(9) = -1; boat(0, -2) = -102; pass(3) = 3
            boat(0, -1) = -1
            boat(0, 3) = -1; boat(0, -2) = -102; boat(0, -1) = 3; boat(1, -1) = -102; boat(2, -1) = -102
            boat(3, -1) = -102
            """, Edge.refusals(5, 0, 0, 0, 0));
    }

    /** Promise 16, "EVERY (1)": 1 to 999. */
    private static void boatEvery() {
        Edge.holds("boat's EVERY", """
            boat(1, 0) = -102; boat(1, 1) = 168; boat(1, 2) = 1; boat(1, 998) = 2; boat(1, 999) = 998
            boat(1, 1000) = -102
            boat(1, -1) = -102; boat(1, 2147483647) = -102; boat(1, -2147483648) = -102; boat(1, 999) = 999
            status(12) = 5
            boat(0, 6) = -1; pass(7) = 6; status(9) = 1005
            """);
    }

    /** Promise 16, "OIL (2), COAL (3; 0 to 9999 both)": OIL. */
    private static void boatOil() {
        Edge.holds("boat's OIL", """
            boat(2, -1) = -102; boat(2, 0) = 0; boat(2, 1) = 0; boat(2, 9998) = 1; boat(2, 9999) = 9998
            boat(2, 10000) = -102
            boat(2, 2147483647) = -102; boat(2, -2147483648) = -102; boat(2, 7) = 9999; boat(0, 6) = -1; pass(7) = 6
            status(1) = 7; status(2) = 0; status(12) = 4
            """);
    }

    /** Promise 16, "OIL (2), COAL (3; 0 to 9999 both)": COAL. */
    private static void boatCoal() {
        Edge.holds("boat's COAL", """
            boat(3, -1) = -102; boat(3, 0) = 0; boat(3, 1) = 0; boat(3, 9998) = 1; boat(3, 9999) = 9998
            boat(3, 10000) = -102
            boat(3, 2147483647) = -102; boat(3, -2147483648) = -102; boat(3, 7) = 9999; boat(0, 6) = -1; pass(7) = 6
            status(1) = 0; status(2) = 7; status(12) = 4
            """);
    }

    /** Promise 21, "Of a KEEPER .. BAD.": -1, the first, the last, one more; none where there are none. */
    private static void keeperOfWhom() {
        Edge.holds("keeperOf whom", """
            keeperOf(-1, 0) = -102; keeperOf(0, 0) = -102; keeper(1) = 0; keeperOf(-1, 0) = -102; keeperOf(0, 0) = 1
            keeperOf(1, 0) = -102; keeper(2) = 1; keeperOf(1, 0) = 2; keeperOf(2, 0) = -102
            keeperOf(2147483647, 0) = -102
            keeperOf(-2147483648, 0) = -102; keeper(0) = 2; keeper(0) = 3; keeper(0) = 4; keeper(2) = 5
            keeperOf(5, 0) = 2
            keeperOf(6, 0) = -102; status(12) = 8
            """);
    }

    /** Promise 21, "RANK (what 0) .. ASLEEP on WATCH (5). BAD.": -1, 0, 5, 6. */
    private static void keeperOfWhat() {
        Edge.holds("keeperOf what", """
            keeper(1) = 0; keeperOf(0, -1) = -102; keeperOf(0, 0) = 1; keeperOf(0, 1) = 0; keeperOf(0, 2) = 9
            keeperOf(0, 3) = 0
            keeperOf(0, 4) = 0; keeperOf(0, 5) = 0; keeperOf(0, 6) = -102; keeperOf(0, 2147483647) = -102
            keeperOf(0, -2147483648) = -102; keeperOf(1, 6) = -102; status(12) = 5
            """);
    }

    /** Promise 21, "RANK (what 0), .. how long he LASTS (2)": of each RANK. */
    private static void keeperOfRanks() {
        Edge.holds("keeperOf RANKS", """
            keeper(0) = 0; keeper(1) = 1; keeper(2) = 2; keeperOf(0, 0) = 0; keeperOf(0, 2) = 12; keeperOf(1, 0) = 1
            keeperOf(1, 2) = 9; keeperOf(2, 0) = 2; keeperOf(2, 2) = 6; plan(0, 2) = -1; pass(1) = 1; keeperOf(2, 2) = 6
            """);
    }

    /** Promise 21, "TIRED (1)": from 0 to as much as a BOY LASTS and on, and down to 0 again. */
    private static void keeperOfTired() {
        Edge.holds("keeperOf TIRED", "keeper(2) = 0; keeperOf(0, 1) = 0\n", Edge.watch(0, 6, 12), """
            pass(6) = 6; keeperOf(0, 1) = 0; pass(1) = 0; keeperOf(0, 1) = 1; pass(4) = 0; keeperOf(0, 1) = 5
            pass(1) = 0
            keeperOf(0, 1) = 6; pass(1) = 0; keeperOf(0, 1) = 4; pass(1) = 0; keeperOf(0, 1) = 2; pass(1) = 0
            keeperOf(0, 1) = 0
            pass(1) = 0; keeperOf(0, 1) = 0
            """);
    }

    /** Promise 21, "hours in THE PLAN (3)": 0, 1, 23, 24, and another's are not his. */
    private static void keeperOfHours() {
        Edge.holds("keeperOf hours",
            "keeper(0) = 0; keeper(0) = 1; keeperOf(0, 3) = 0; plan(0, 0) = -1; keeperOf(0, 3) = 1\n",
            Edge.watch(0, 1, 22), "keeperOf(0, 3) = 23; plan(23, 0) = -1; keeperOf(0, 3) = 24; keeperOf(1, 3) = 0\n",
            """
            plan(23, 1) = 0; keeperOf(0, 3) = 23; keeperOf(1, 3) = 1; plan(0, -1) = 0; keeperOf(0, 3) = 22
            plan(23, 1) = 1
            keeperOf(1, 3) = 1; plan(24, 1) = -102; keeperOf(1, 3) = 1
            """);
    }

    /** Promise 21, "how often he TENDED (4), how often he was ASLEEP on WATCH (5)": also by day; not if he rests. */
    private static void keeperOfTendedAndAsleep() {
        Edge.holds("keeperOf TENDED and ASLEEP", "keeper(2) = 0; keeper(2) = 1\n", Edge.watch(0, 6, 13), """
            pass(6) = 6; keeperOf(0, 4) = 0; keeperOf(0, 5) = 0; pass(1) = 0; keeperOf(0, 4) = 1; keeperOf(0, 5) = 0
            pass(5) = 0; keeperOf(0, 4) = 6; keeperOf(0, 5) = 0; pass(1) = 0; keeperOf(0, 4) = 6; keeperOf(0, 5) = 1
            pass(1) = 0; keeperOf(0, 4) = 7; keeperOf(0, 5) = 1; pass(1) = 0; keeperOf(0, 4) = 7; keeperOf(0, 5) = 1
            keeperOf(1, 4) = 0; keeperOf(1, 5) = 0
            """);
    }
}
