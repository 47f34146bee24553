/** The edges that promises 40 to 42 name, a sentence or a part of one each. */
public final class EdgeImageTest {
    public static void main(String[] args) {
        imageOfTheFirst();
        imageKeepsAll();
        imageKeepsWhatIsCounted();
        imageWithoutTheTape();
        imageWithoutShelves();
        imageWithoutRefusals();
        imageOfTheLast();
        backStuck();
        backAgain();
        backOfFullLists();
        backShelvesWithShips();
        backShelvesOfNoShips();
        backShelvesOfTheLastShips();
        statusWhat();
        statusOfTheStation();
        statusOfLists();
        statusOfTheBoat();
        statusOfRefusals();
        statusOfTapeAndSeed();
        statusOfShelves();
        Check.end();
    }

    /** Promise 40, "All is kept .. : 1.": of a new object, and nothing is changed by it. */
    private static void imageOfTheFirst() {
        Edge.holds("image of the first",
            "image() = 1; pass(5) = 5; keeper(0) = 0; ship(3, 9) = 0; seed(4) = 1; tell(0, 3) = 6; back() = 1\n",
            Edge.each(0, 8, what -> "status(" + what + ") = 0"), """
            status(9) = -1; status(10) = 0; status(11) = 0; status(18) = 1; tell(0, 6) = 6; keeperOf(0, 0) = -102
            shipOf(0, 0) = -102
            """);
    }

    /** Promise 40, "All is kept"; promise 41, "All is again as it was kept": each thing that can be told or become. */
    private static void imageKeepsAll() {
        Edge.holds("image keeps all", Edge.sky("f2 c3", 2), """
            keeper(2) = 0; keeper(0) = 1; plan(0, 1) = -1; plan(1, 0) = -1; tell(0, 5) = 6; tell(1, 19) = 18
            tell(2, 2) = 1
            tell(3, 9) = 0; tell(4, 5) = 0; boat(0, 8) = -1; boat(1, 30) = 168; boat(2, 40) = 0; boat(3, 50) = 0
            ship(3, 0) = 0
            ship(5, 9) = 1; seed(77) = 1; pass(3) = 0; image() = 1
            """, Edge.sky("s9", 1), """
            keeper(1) = 2; plan(0, 2) = 1; plan(1, -1) = 0; tell(0, 6) = 5; tell(1, 20) = 19; tell(2, 3) = 2
            tell(3, 99) = 3
            tell(4, 98) = 3; boat(0, 300) = 8; boat(1, 31) = 30; boat(2, 41) = 40; boat(3, 51) = 50; ship(7, 9) = 2
            seed(78) = 77
            pass(30) = 11; back() = 1; status(0) = 3; status(1) = 3; status(2) = 3; status(3) = 1; status(4) = 1
            status(5) = 2
            status(6) = 2; status(7) = 5; status(8) = 0; status(9) = 8; status(10) = 2; status(11) = 0; status(18) = 77
            unlit() = 0
            weather(0) = 1; weather(2) = 0; weather(5) = 1; tell(0, 5) = 5; tell(1, 19) = 19; tell(2, 2) = 2
            boat(1, 30) = 30
            boat(2, 40) = 40; boat(3, 50) = 50; keeperOf(0, 1) = 0; keeperOf(0, 3) = 1; keeperOf(0, 4) = 1
            keeperOf(1, 3) = 1
            keeperOf(1, 4) = 1; keeperOf(2, 0) = -102; shipOf(0, 2) = 0; shipOf(0, 3) = 3; shipOf(1, 2) = -1
            shipOf(2, 0) = -102
            log(4, 1) = 3; log(5, 0) = -102; logged(4) = 1; many(0, 0) = 1; many(0, 2) = 0; shipAt(9, 0) = 1
            shipAt(9, 1) = -1
            pass(1) = 1; status(4) = 0
            """);
    }

    /** Promise 40, "All is kept": how often he TENDED and was ASLEEP, THE BOAT came, what a SHIP met; twice alike. */
    private static void imageKeepsWhatIsCounted() {
        String kept = """
            keeperOf(0, 1) = 3; keeperOf(0, 4) = 3; keeperOf(0, 5) = 0; status(11) = 0; status(9) = 6; status(8) = 3
            unlit() = 7; shipOf(0, 2) = -1; shipOf(0, 3) = -1; shipOf(1, 2) = 1; shipOf(1, 3) = 0; status(7) = 4
            """;
        String behind = """
            pass(5) = 3; keeperOf(0, 1) = 0; keeperOf(0, 4) = 7; keeperOf(0, 5) = 1; status(11) = 2; status(9) = 8
            unlit() = 63; shipOf(0, 2) = 1; shipOf(0, 3) = 0; shipOf(1, 2) = 1; status(7) = 8; status(8) = 6
            """;
        Edge.holds("image keeps what is counted", "keeper(2) = 0; boat(0, 6) = -1; boat(1, 1) = 168\n",
            Edge.watch(0, 0, 7), "ship(3, 5) = 0; ship(3, 2) = 1; pass(3) = 3; image() = 1\n", kept, behind,
            "back() = 1\n", kept, behind, "back() = 1\n", kept);
    }

    /**
     * Promise 40, "but THE TAPE": what is fed behind the image stays there, what was fed ahead and wiped doesn't come
     * again.
     */
    private static void imageWithoutTheTape() {
        Edge.holds("image without THE TAPE", """
            feed(99) = 1; image() = 1; feed(49) = 2; back() = 1; status(17) = 2; sky() = 1; status(10) = 1; back() = 1
            status(10) = 0; status(17) = 0; wipe() = 0; feed(102) = 1; back() = 1; status(17) = 1
            """);
    }

    /** Promise 40, "but .. SHELVES": ROWS stay as they are behind the image. */
    private static void imageWithoutShelves() {
        Edge.holds("image without SHELVES", Edge.ints(0, 5, 6),
            "image() = 1; set(0, 1, 7) = 1; row(1, 0, 1) = 1; back() = 1\n", """
            element(0, 0) = 5; element(0, 1) = 7; holds(1) = 0; status(19) = 2; show(0, -1) = 1; back() = 1
            holds(0) = -1
            status(19) = 1
            """);
    }

    /** Promise 40, "but .. REFUSALS": they are counted on behind back(). */
    private static void imageWithoutRefusals() {
        Edge.holds("image without REFUSALS", """
            pass(-1) = -102; image() = 1; pass(-1) = -102; set(0, 0, 0) = -104; back() = 1; status(12) = 2
            status(14) = 1
            pass(-1) = -102; back() = 1; status(12) = 3; status(14) = 1
            """, Edge.refusals(3, 0, 1, 0, 0));
    }

    /** Promise 40, "All is kept": the last image alone. */
    private static void imageOfTheLast() {
        Edge.holds("the last image", """
            image() = 1; pass(2) = 2; image() = 1; image() = 1; pass(3) = 3; back() = 1; status(0) = 2; status(8) = 2
            image() = 1
            pass(1) = 1; back() = 1; status(0) = 2
            """);
    }

    /** Promise 41, "1. STUCK: nothing was.": ahead of the first image and behind it. */
    private static void backStuck() {
        Edge.holds("back, STUCK", """
            back() = -105; pass(2) = 2; back() = -105; status(0) = 2; status(15) = 2; image() = 1; back() = 1
            status(0) = 2
            status(15) = 2; pass(1) = 1; back() = 1; status(0) = 2; status(15) = 2
            """);
    }

    /** Promise 41, "All is again as it was kept": at once, once more, and again behind other HOURS. */
    private static void backAgain() {
        Edge.holds("back again", "keeper(0) = 0; tell(3, 5) = 0\n", Edge.watch(0, 0, 5), """
            pass(2) = 0; image() = 1; back() = 1; status(0) = 2; status(1) = 3; back() = 1; status(0) = 2; pass(5) = 1
            status(1) = 0
            status(7) = 6; back() = 1; status(0) = 2; status(1) = 3; status(7) = 2; status(8) = 0; keeperOf(0, 1) = 2
            pass(5) = 1
            back() = 1; pass(3) = 0; status(1) = 0; status(7) = 5; log(4, 0) = 4; log(4, 1) = 1; log(5, 0) = -102
            """);
    }

    /** Promise 41, "All is again as it was kept": where KEEPERS and SHIPS are full, there is room again. */
    private static void backOfFullLists() {
        Edge.holds("back of full lists", Edge.each(0, 4, k -> "keeper(0) = " + k),
            Edge.each(0, 198, ship -> "ship(3, 0) = " + ship), """
            image() = 1; keeper(1) = 5; keeper(1) = -106; ship(5, 0) = 199; ship(5, 0) = -106; back() = 1; status(5) = 5
            status(6) = 199; keeperOf(5, 0) = -102; shipOf(199, 0) = -102; keeper(2) = 5; keeperOf(5, 0) = 2
            ship(7, 9) = 199
            shipOf(199, 0) = 7; keeper(2) = -106; ship(7, 9) = -106; status(16) = 4; shipAt(0, 0) = 0
            shipAt(0, 198) = 198
            shipAt(0, 199) = -1; shipAt(9, 0) = 199
            """);
    }

    /**
     * Promise 41, "(SHELVES with SHIPS hold those of the same numbers, or NOTHING)": the last that was kept, the next.
     */
    private static void backShelvesWithShips() {
        Edge.holds("back, SHELVES with SHIPS", """
            ship(3, 5) = 0; ship(4, 5) = 1; image() = 1; ship(5, 6) = 2; ship(6, 6) = 3; show(0, 0) = 1; show(1, 1) = 1
            show(2, 2) = 1
            show(3, 3) = 1; row(4, 0, 1) = 1; status(19) = 5; back() = 1; holds(0) = 10; holds(1) = 11; holds(2) = -1
            holds(3) = -1
            holds(4) = 0; status(19) = 3; says(1, 0) = 5; says(2, 0) = -104; ship(7, 8) = 2; holds(2) = -1
            says(2, 0) = -104
            show(2, 2) = 1; says(2, 0) = 8; image() = 1; back() = 1; holds(2) = 12
            """, Edge.refusals(0, 0, 2, 0, 0));
    }

    /** Promise 41, "(SHELVES with SHIPS hold those .. or NOTHING)": where no SHIP was kept, in SHELVES 0 and 7. */
    private static void backShelvesOfNoShips() {
        Edge.holds("back, SHELVES of no SHIPS", """
            image() = 1; ship(3, 5) = 0; show(0, 0) = 1; show(7, 0) = 1; back() = 1; holds(0) = -1; holds(7) = -1
            status(19) = 0
            ship(7, 9) = 0; holds(0) = -1; show(7, 0) = 1; says(7, 0) = 9
            """);
    }

    /** Promise 41, "hold those of the same numbers": of another SHIP that has the number since; of ship 199. */
    private static void backShelvesOfTheLastShips() {
        Edge.holds("back, SHELVES of the last SHIPS", Edge.each(0, 198, ship -> "ship(3, 9) = " + ship), """
            show(0, 198) = 1; image() = 1; ship(7, 8) = 199; show(1, 199) = 1; holds(1) = 209; back() = 1
            holds(0) = 208
            holds(1) = -1; ship(4, 7) = 199; show(1, 199) = 1; image() = 1; pass(10) = 6; says(1, 4) = 0; back() = 1
            holds(1) = 209; says(1, 4) = -1; says(1, 0) = 7
            """);
    }

    /** Promise 42, "NONE another what.": -1, 0, 19, 20. */
    private static void statusWhat() {
        Edge.holds("status' what", """
            pass(3) = 3; row(0, 0, 0) = 1; status(-1) = -1; status(0) = 3; status(1) = 0; status(18) = 1; status(19) = 1
            status(20) = -1; status(2147483647) = -1; status(-2147483648) = -1
            """, Edge.refusals(0, 0, 0, 0, 0));
    }

    /** Promise 42, "HOUR (0), OIL (1), COAL (2), 1 if LIT, else 0 (3), UNTENDED (4), .. UNLIT (8)". */
    private static void statusOfTheStation() {
        Edge.holds("status of the station", """
            tell(3, 9999) = 0; tell(4, 9998) = 0; status(1) = 9999; status(2) = 9998; keeper(0) = 0; plan(1, 0) = -1
            pass(1) = 1
            status(0) = 1; status(3) = 0; status(4) = 0; status(8) = 1; pass(1) = 0; status(3) = 1; status(4) = 0
            status(8) = 1
            pass(1) = 0; status(3) = 1; status(4) = 1; status(8) = 1; pass(1) = 1; status(3) = 0; status(4) = 0
            status(8) = 2
            status(0) = 4; status(1) = 9997; status(2) = 9998
            """);
    }

    /** Promise 42, "KEEPERS (5), SHIPS (6), entries of THE LOG (7), .. RUNS of THE SKY (10)": none, one, two. */
    private static void statusOfLists() {
        Edge.holds("status of lists", """
            status(5) = 0; keeper(0) = 0; status(5) = 1; keeper(0) = 1; status(5) = 2; status(6) = 0; ship(3, 1) = 0
            status(6) = 1
            ship(3, 2) = 1; status(6) = 2; plan(0, 0) = -1; plan(1, 0) = -1; status(7) = 0; pass(1) = 1; status(7) = 1
            pass(1) = 1
            status(7) = 3; status(10) = 0
            """, Edge.sky("c1", 1), "status(10) = 1\n", Edge.sky("c1 c1", 2), "status(10) = 2; ship(2, 9) = -102; status(6) = 2");
    }

    /** Promise 42, "DUE (9; NONE), .. how often THE BOAT came (11)": never, once, twice. */
    private static void statusOfTheBoat() {
        Edge.holds("status of THE BOAT", """
            status(9) = -1; status(11) = 0; boat(0, 0) = -1; status(9) = 0; boat(1, 1) = 168; pass(6) = 6
            status(11) = 0
            status(9) = 0; pass(1) = 0; status(11) = 1; status(9) = 7; pass(1) = 0; status(11) = 2; status(9) = 8
            boat(0, -1) = 8
            status(9) = -1; pass(1) = 0; status(11) = 2
            """);
    }

    /** Promise 42, "12 to 16: REFUSALS -102 to -106": none and one of each, in their places. */
    private static void statusOfRefusals() {
        Edge.holds("status of REFUSALS", Edge.refusals(0, 0, 0, 0, 0), Edge.each(0, 5, k -> "keeper(2) = " + k),
            "keeper(2) = -106\n", Edge.refusals(0, 0, 0, 0, 1), "back() = -105\n", Edge.refusals(0, 0, 0, 1, 1),
            "plans(0) = -104\n",
            Edge.refusals(0, 0, 1, 1, 1), "ship(3, 0) = 0; show(0, 0) = 1; plans(0) = -103\n",
            Edge.refusals(0, 1, 1, 1, 1),
            "sky() = -300\n", Edge.refusals(1, 1, 1, 1, 1), "status(11) = 0; status(17) = 0");
    }

    /** Promise 42, "THE TAPE's size (17), SEED (18)". */
    private static void statusOfTapeAndSeed() {
        Edge.holds("status of THE TAPE and SEED", """
            status(17) = 0; feed(0) = 1; status(17) = 1; feed(0) = 2; status(17) = 2; wipe() = 2; status(17) = 0
            status(18) = 1
            seed(-2147483648) = 1; status(18) = -2147483648; seed(-1) = -2147483648; status(18) = -1; days(1) = 1
            status(18) = -1103502900
            """, Edge.each(1, 250, size -> "feed(7) = " + size), "status(17) = 250; feed(7) = -106; status(17) = 250");
    }

    /** Promise 42, "SHELVES that hold something (19)": none, a ROW without elements, a SHIP, all eight. */
    private static void statusOfShelves() {
        Edge.holds("status of SHELVES", """
            status(19) = 0; row(0, 0, 0) = 1; status(19) = 1; row(0, 1, 3) = 1; status(19) = 1; ship(3, 0) = 0
            show(7, 0) = 1
            status(19) = 2; show(7, -1) = 1; status(19) = 1; show(7, 0) = 1
            """, Edge.each(1, 6, s -> "row(" + s + ", 4, 1) = 1"), "status(19) = 8; show(0, -1) = 1; status(19) = 7; row(8, 0, 0) = -102\n",
            "status(19) = 7");
    }
}
