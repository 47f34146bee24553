/** The edges that promises 1 to 8 name, a sentence or a part of one each. */
public final class EdgeShelvesTest {
    /** Shelf 0: ints 1 to 5; shelf 1: ints 11 to 13. */
    private static final String TWO_ROWS = Edge.ints(0, 1, 2, 3, 4, 5) + Edge.ints(1, 11, 12, 13);
    /** Shelf 0: ship 0; shelf 1: nothing; shelf 2: three ints; shelf 3: three longs. */
    private static final String ALL_SORTS = "ship(3, 5) = 0; show(0, 0) = 1; row(2, 2, 3) = 1; row(3, 3, 3) = 1\n";

    public static void main(String[] args) {
        newLight();
        newShelves();
        newTape();
        rowShelf();
        rowSort();
        rowSize();
        rowIsNew();
        rowOfAShip();
        setPlace();
        setPlaceOfNoElements();
        setPlaceOfAll();
        setShelf();
        setRefused();
        copyHowMany();
        copyFromPlace();
        copyToPlace();
        copyOfAll();
        copyOfNone();
        copyFarBeyond();
        copyAsTheyWere();
        copyShelves();
        copyOfTwoSorts();
        copyRefused();
        elementPlace();
        elementOfNoRow();
        holdsShelf();
        holdsRow();
        holdsShip();
        showShelf();
        showShip();
        showOfNoShips();
        showNothing();
        saysShip();
        saysSmall();
        saysGreat();
        saysWhatBecame();
        saysWreck();
        saysSinceItCame();
        saysWhatItMet();
        saysMail();
        saysBadShelf();
        saysBadKind();
        saysOther();
        saysNothing();
        Check.end();
    }

    /** Promise 1, "HOUR 0, no KEEPERS, no SHIPS, CLEAR always". */
    private static void newLight() {
        Edge.holds("a new object", """
            status(0) = 0; status(1) = 0; status(2) = 0; status(3) = 0; status(4) = 0; status(5) = 0; status(6) = 0
            status(7) = 0; status(8) = 0; status(9) = -1; status(10) = 0; status(11) = 0; status(18) = 1
            keeperOf(0, 0) = -102; shipOf(0, 0) = -102; shipAt(0, 0) = -1; plan(0, 0) = -102; plan(0, -1) = -1
            weather(0) = 0; weather(1) = 0; weather(23) = 0; weather(2147483647) = 0; log(0, 0) = -102; unlit() = 0
            """, Edge.refusals(4, 0, 0, 0, 0));
    }

    /** Promise 1, "SHELVES hold NOTHING". */
    private static void newShelves() {
        Edge.holds("new SHELVES", "status(19) = 0\n", Edge.each(-1, 8, s -> "holds(" + s + ") = -1"),
            Edge.each(0, 7, s -> "element(" + s + ", 0) = 0"), Edge.each(0, 7, s -> "set(" + s + ", 0, 1) = -104"),
            "status(14) = 8");
    }

    /** Promise 1, "THE TAPE is empty". */
    private static void newTape() {
        Edge.holds("a new TAPE",
            "status(17) = 0; wipe() = 0; sky() = -300; status(17) = 0; feed(99) = 1; feed(49) = 2; sky() = 1");
    }

    /** Promise 2, "SHELF s holds a new ROW: 1. BAD.": the SHELF is 0 to 7. */
    private static void rowShelf() {
        Edge.holds("row's SHELF", """
            row(-2147483648, 2, 3) = -102; row(-1, 2, 3) = -102; row(0, 2, 3) = 1; row(1, 2, 3) = 1; status(19) = 2
            row(6, 2, 3) = 1; row(7, 2, 3) = 1; row(8, 2, 3) = -102; row(9, 2, 3) = -102; row(2147483647, 2, 3) = -102
            holds(0) = 2; holds(1) = 2; holds(2) = -1; holds(5) = -1; holds(6) = 2; holds(7) = 2; status(19) = 4
            status(12) = 5
            """);
    }

    /** Promise 2, "SHELF s holds a new ROW: 1. BAD.": the SORT is 0 to 4. */
    private static void rowSort() {
        Edge.holds("row's SORT", """
            row(0, -1, 3) = -102; holds(0) = -1; row(0, 0, 3) = 1; holds(0) = 0; row(0, 1, 3) = 1; holds(0) = 1
            row(0, 3, 3) = 1; holds(0) = 3; row(0, 4, 3) = 1; holds(0) = 4; row(0, 5, 3) = -102; holds(0) = 4
            row(0, 10, 3) = -102; row(0, -2147483648, 3) = -102; row(0, 2147483647, 3) = -102; holds(0) = 4
            status(12) = 5
            """);
    }

    /** Promise 2, "SHELF s holds a new ROW: 1. BAD.": 0 to 40 elements. */
    private static void rowSize() {
        Edge.holds("row's size", """
            row(0, 2, -1) = -102; holds(0) = -1; row(0, 2, 0) = 1; holds(0) = 2; set(0, 0, 1) = -102
            row(0, 2, 1) = 1; set(0, 0, 1) = 1; set(0, 1, 1) = -102; row(0, 2, 39) = 1; set(0, 38, 1) = 1
            set(0, 39, 1) = -102
            row(0, 2, 40) = 1; set(0, 39, 1) = 1; set(0, 40, 1) = -102; row(0, 2, 41) = -102; set(0, 39, 2) = 1
            row(0, 2, 2147483647) = -102; row(0, 2, -2147483648) = -102; element(0, 39) = 2; status(12) = 8
            """);
    }

    /** Promise 2, "a new ROW": none of the elements that were there, and all of them if it is refused. */
    private static void rowIsNew() {
        Edge.holds("a new ROW", Edge.ints(0, 5, 6), "row(0, 2, 41) = -102; row(0, 5, 2) = -102; row(0, -1, 2) = -102\n",
            Edge.elements(0, 5, 6), "holds(0) = 2; row(0, 2, 2) = 1\n", Edge.elements(0, 0, 0),
            "set(0, 1, 8) = 1; row(0, 2, 1) = 1\n",
            Edge.elements(0, 0, 0), "set(0, 1, 8) = -102; row(0, 2, 2) = 1\n", Edge.elements(0, 0, 0));
    }

    /** Promise 2, "SHELF s holds a new ROW": where a SHIP was. */
    private static void rowOfAShip() {
        Edge.holds("a ROW where a SHIP was", """
            ship(3, 5) = 0; show(0, 0) = 1; row(0, 0, 41) = -102; holds(0) = 10; row(0, 0, 2) = 1; holds(0) = 0
            set(0, 1, 4) = 1; element(0, 1) = 4; says(0, 0) = -103; status(6) = 1; status(19) = 1
            """);
    }

    /** Promise 3, "Element i of the ROW in SHELF s becomes v: 1.": the places beside the first and the last. */
    private static void setPlace() {
        Edge.holds("set's place",
            "row(0, 2, 3) = 1; row(1, 2, 3) = 1; set(0, -1, 9) = -102; set(0, -2147483648, 9) = -102\n",
            Edge.elements(0, 0, 0, 0), "set(0, 0, 4) = 1\n", Edge.elements(0, 4, 0, 0), "set(0, 1, 5) = 1\n",
            Edge.elements(0, 4, 5, 0), "set(0, 2, 6) = 1\n", Edge.elements(0, 4, 5, 6), "set(0, 3, 7) = -102\n",
            "set(0, 4, 7) = -102; set(0, 2147483647, 7) = -102\n", Edge.elements(0, 4, 5, 6, 0),
            Edge.elements(1, 0, 0, 0),
            "set(0, 2, 8) = 1\n", Edge.elements(0, 4, 5, 8), "status(12) = 5");
    }

    /** Promise 3, "Element i of the ROW": of a ROW without elements there is none. */
    private static void setPlaceOfNoElements() {
        Edge.holds("set of no elements",
            "row(0, 2, 0) = 1; set(0, -1, 1) = -102; set(0, 0, 1) = -102; set(0, 1, 1) = -102\n",
            "element(0, 0) = 0; row(0, 2, 1) = 1; set(0, 0, 1) = 1; element(0, 0) = 1");
    }

    /** Promise 3, "Element i of the ROW": of one with 40 the places 38, 39, 40. */
    private static void setPlaceOfAll() {
        Edge.holds("set of 40 elements",
            "row(0, 1, 40) = 1; set(0, 38, 1) = 1; set(0, 39, 2) = 1; set(0, 40, 3) = -102\n",
            "element(0, 38) = 1; element(0, 39) = 2; element(0, 40) = 0; element(0, 0) = 0; set(0, 0, 4) = 1; element(0, 0) = 4");
    }

    /** Promise 3, "BAD SHELF". */
    private static void setShelf() {
        Edge.holds("set's SHELF",
            "row(0, 2, 1) = 1; row(7, 2, 1) = 1; set(-1, 0, 5) = -102; set(0, 0, 5) = 1; set(7, 0, 6) = 1\n",
            "set(8, 0, 5) = -102; set(2147483647, 0, 5) = -102; element(0, 0) = 5; element(7, 0) = 6; status(12) = 3");
    }

    /** Promise 3, "BAD SHELF; OTHER; NOTHING; BAD i.": each with a place that is none, and with one that could be. */
    private static void setRefused() {
        Edge.holds("set refused", ALL_SORTS, """
            set(8, 3, 1) = -102; set(0, 3, 1) = -103; set(0, 0, 1) = -103; set(1, 3, 1) = -104; set(1, 0, 1) = -104
            set(2, 3, 1) = -102; set(2, 2, 1) = 1; holds(0) = 10; holds(1) = -1; element(2, 2) = 1
            """, Edge.refusals(2, 2, 2, 0, 0));
    }

    /** Promise 4, "n elements of the ROW in SHELF p .. come to .. that in q .. : n.": -1 to one more than q has. */
    private static void copyHowMany() {
        Edge.holds("copy's n", TWO_ROWS, "copy(0, 1, 0, 0, -1) = -102; copy(0, 1, 0, 0, 0) = 0\n",
            Edge.elements(1, 11, 12, 13),
            "copy(0, 1, 0, 0, 1) = 1\n", Edge.elements(1, 1, 12, 13), "copy(0, 1, 0, 0, 2) = 2\n",
            Edge.elements(1, 1, 2, 13),
            "copy(0, 1, 0, 0, 4) = -102\n", Edge.elements(1, 1, 2, 13), "copy(0, 1, 0, 0, 3) = 3\n",
            Edge.elements(1, 1, 2, 3),
            Edge.elements(0, 1, 2, 3, 4, 5), "status(12) = 2");
    }

    /** Promise 4, "from place i on": beside the first, and so that the last is reached and passed. */
    private static void copyFromPlace() {
        Edge.holds("copy's i", TWO_ROWS, "copy(0, 1, -1, 0, 1) = -102; copy(0, 1, 0, 0, 1) = 1\n",
            Edge.elements(1, 1, 12, 13),
            "copy(0, 1, 1, 0, 1) = 1\n", Edge.elements(1, 2, 12, 13), "copy(0, 1, 3, 0, 1) = 1\n",
            Edge.elements(1, 4, 12, 13),
            "copy(0, 1, 4, 0, 1) = 1\n", Edge.elements(1, 5, 12, 13),
            "copy(0, 1, 5, 0, 1) = -102; copy(0, 1, 6, 0, 1) = -102\n",
            Edge.elements(1, 5, 12, 13), "copy(0, 1, 2, 0, 3) = 3\n", Edge.elements(1, 3, 4, 5),
            "copy(0, 1, 3, 0, 3) = -102\n",
            Edge.elements(1, 3, 4, 5), "copy(0, 1, 3, 0, 2) = 2\n", Edge.elements(1, 4, 5, 5), "status(12) = 4");
    }

    /** Promise 4, "come to places j on of that in q": beside the first, and so that the last is reached and passed. */
    private static void copyToPlace() {
        Edge.holds("copy's j", TWO_ROWS, "copy(0, 1, 0, -1, 1) = -102; copy(0, 1, 0, 0, 1) = 1\n",
            Edge.elements(1, 1, 12, 13),
            "copy(0, 1, 1, 1, 1) = 1\n", Edge.elements(1, 1, 2, 13), "copy(0, 1, 4, 2, 1) = 1\n",
            Edge.elements(1, 1, 2, 5),
            "copy(0, 1, 0, 3, 1) = -102; copy(0, 1, 0, 4, 1) = -102\n", Edge.elements(1, 1, 2, 5, 0),
            "copy(0, 1, 2, 1, 2) = 2\n", Edge.elements(1, 1, 3, 4), "copy(0, 1, 2, 2, 2) = -102\n",
            Edge.elements(1, 1, 3, 4, 0),
            "status(12) = 4");
    }

    /** Promise 4, "n elements of the ROW": all 40 of them, and one more. */
    private static void copyOfAll() {
        Edge.holds("copy of all", "row(0, 3, 40) = 1; row(1, 3, 40) = 1; set(0, 0, 5) = 1; set(0, 39, 6) = 1\n",
            "copy(0, 1, 0, 0, 41) = -102; element(1, 0) = 0; element(1, 39) = 0; copy(0, 1, 0, 0, 39) = 39; element(1, 0) = 5\n",
            "element(1, 39) = 0; copy(0, 1, 0, 0, 40) = 40; element(1, 39) = 6; copy(0, 1, 1, 0, 40) = -102\n",
            "copy(0, 1, 0, 1, 40) = -102; copy(0, 1, 1, 0, 39) = 39; element(1, 38) = 6; element(1, 39) = 6; element(1, 0) = 0\n",
            "copy(0, 1, 0, 1, 39) = 39; element(1, 0) = 0; element(1, 1) = 5; status(12) = 3");
    }

    /** Promise 4, "n elements": none, from and to the places up to right behind the last, and beyond. */
    private static void copyOfNone() {
        Edge.holds("copy of none", TWO_ROWS, """
            copy(0, 1, 4, 2, 0) = 0; copy(0, 1, 5, 2, 0) = 0; copy(0, 1, 6, 2, 0) = -102; copy(0, 1, -1, 2, 0) = -102
            copy(0, 1, 4, 3, 0) = 0; copy(0, 1, 4, 4, 0) = -102; copy(0, 1, 4, -1, 0) = -102; copy(0, 1, 5, 3, 0) = 0
            row(2, 2, 0) = 1; copy(2, 0, 0, 0, 0) = 0; copy(0, 2, 0, 0, 0) = 0; copy(2, 0, 0, 0, 1) = -102
            copy(0, 2, 0, 0, 1) = -102; copy(2, 2, 0, 0, 0) = 0; copy(2, 2, 1, 0, 0) = -102; status(12) = 7
            """, Edge.elements(0, 1, 2, 3, 4, 5), Edge.elements(1, 11, 12, 13));
    }

    /** Promise 4, "BAD the others": numbers whose sum is more than an int holds. */
    private static void copyFarBeyond() {
        Edge.holds("copy far beyond", TWO_ROWS, """
            copy(0, 1, 2147483647, 0, 1) = -102; copy(0, 1, 0, 2147483647, 1) = -102
            copy(0, 1, 1, 1, 2147483647) = -102
            copy(0, 1, 2147483647, 2147483647, 2147483647) = -102; copy(0, 1, -2147483648, 0, 1) = -102
            copy(0, 1, 0, -2147483648, 1) = -102; copy(0, 1, 0, 0, -2147483648) = -102; status(12) = 7
            """, Edge.elements(1, 11, 12, 13));
    }

    /** Promise 4, "(as they were)": within one ROW by one place up, none, and one down. */
    private static void copyAsTheyWere() {
        Edge.holds("copy as they were", TWO_ROWS, "copy(0, 0, 0, 1, 4) = 4\n", Edge.elements(0, 1, 1, 2, 3, 4),
            "copy(0, 0, 1, 1, 4) = 4; copy(0, 0, 0, 0, 5) = 5\n", Edge.elements(0, 1, 1, 2, 3, 4),
            "copy(0, 0, 1, 0, 4) = 4\n",
            Edge.elements(0, 1, 2, 3, 4, 4), "copy(0, 0, 0, 1, 5) = -102; copy(0, 0, 1, 0, 5) = -102\n",
            Edge.elements(0, 1, 2, 3, 4, 4), "copy(0, 0, 0, 4, 1) = 1; copy(0, 0, 3, 0, 1) = 1\n",
            Edge.elements(0, 4, 2, 3, 4, 1));
    }

    /** Promise 4, "BAD SHELVES": of p and of q. */
    private static void copyShelves() {
        Edge.holds("copy's SHELVES", "row(0, 2, 2) = 1; set(0, 0, 3) = 1; row(7, 2, 2) = 1; set(7, 1, 4) = 1\n", """
            copy(-1, 7, 0, 0, 1) = -102; copy(0, 7, 0, 0, 1) = 1; element(7, 0) = 3; copy(7, 0, 1, 1, 1) = 1
            element(0, 1) = 4
            copy(8, 0, 0, 0, 1) = -102; copy(0, 8, 0, 0, 1) = -102; copy(0, -1, 0, 0, 1) = -102
            copy(7, 8, 0, 0, 0) = -102
            copy(-1, 8, 0, 0, 0) = -102; status(12) = 6; element(7, 1) = 4; element(0, 0) = 3
            """);
    }

    /** Promise 4, "OTHER (also ROWS of two SORTS, if both hold something)": each SORT with itself and with the next. */
    private static void copyOfTwoSorts() {
        Edge.holds("copy of two SORTS", Edge.each(0, 4, sort -> "row(" + sort + ", " + sort + ", 2) = 1"),
            "row(5, 0, 2) = 1; row(6, 4, 0) = 1\n", Edge.each(0, 4, sort -> "set(" + sort + ", 0, 1) = 1"),
            Edge.each(0, 4, sort -> "copy(" + sort + ", " + sort + ", 0, 1, 1) = 1"),
            Edge.each(0, 3, sort -> "copy(" + sort + ", " + (sort + 1) + ", 0, 0, 1) = -103"),
            Edge.each(0, 3, sort -> "copy(" + (sort + 1) + ", " + sort + ", 0, 0, 1) = -103"),
            "copy(0, 5, 0, 0, 1) = 1; element(5, 0) = 1; copy(6, 4, 0, 0, 0) = 0; copy(6, 0, 0, 0, 0) = -103\n",
            "copy(3, 7, 0, 0, 1) = -104; copy(7, 3, 0, 0, 1) = -104; copy(7, 7, 0, 0, 1) = -104\n",
            Edge.refusals(0, 9, 3, 0, 0));
    }

    /** Promise 4, "BAD SHELVES; OTHER .. NOTHING; BAD the others.": each ahead of all that come behind it. */
    private static void copyRefused() {
        Edge.holds("copy refused", ALL_SORTS, """
            copy(8, 0, 0, 0, 1) = -102; copy(0, 8, 0, 0, 1) = -102; copy(1, 8, 0, 0, 1) = -102
            copy(0, 1, 0, 0, 1) = -103; copy(1, 0, 0, 0, 1) = -103; copy(0, 0, 0, 0, 1) = -103
            copy(0, 2, 9, 0, 1) = -103
            copy(2, 0, 0, 9, 1) = -103; copy(2, 3, 9, 9, 9) = -103; copy(2, 1, 9, 9, 9) = -104
            copy(1, 2, 0, 0, -1) = -104
            copy(2, 2, 0, 0, 9) = -102; copy(2, 2, 0, 0, 3) = 3
            """, Edge.refusals(4, 6, 2, 0, 0));
    }

    /** Promise 5, "Element i of the ROW; 0: none": the places beside the first and the last. */
    private static void elementPlace() {
        Edge.holds("element's place", Edge.ints(0, 5, 6, 7), """
            element(0, -1) = 0; element(0, 0) = 5; element(0, 1) = 6; element(0, 2) = 7; element(0, 3) = 0
            element(0, 39) = 0; element(0, 40) = 0; element(0, 2147483647) = 0; element(0, -2147483648) = 0
            row(1, 3, 40) = 1; set(1, 39, 8) = 1; element(1, 38) = 0; element(1, 39) = 8; element(1, 40) = 0
            row(2, 3, 0) = 1; element(2, 0) = 0
            """, Edge.refusals(0, 0, 0, 0, 0));
    }

    /** Promise 5, "0: none, no ROW (nothing is refused)": no SHELF, NOTHING, a SHIP. */
    private static void elementOfNoRow() {
        Edge.holds("element of no ROW", Edge.ints(0, 5), Edge.ints(7, 6), """
            element(-1, 0) = 0; element(0, 0) = 5; element(1, 0) = 0; element(7, 0) = 6; element(8, 0) = 0
            ship(3, 9) = 0
            show(0, 0) = 1; element(0, 0) = 0; show(7, -1) = 1; element(7, 0) = 0
            """, Edge.refusals(0, 0, 0, 0, 0));
    }

    /** Promise 6, "NONE NOTHING, no SHELF". */
    private static void holdsShelf() {
        Edge.holds("holds' SHELF", """
            row(0, 0, 0) = 1; row(7, 1, 1) = 1; holds(-1) = -1; holds(0) = 0; holds(1) = -1; holds(6) = -1; holds(7) = 1
            holds(8) = -1; holds(-2147483648) = -1; holds(2147483647) = -1
            """, Edge.refusals(0, 0, 0, 0, 0));
    }

    /** Promise 6, "0 to 4 a ROW by its SORT": also of one without elements. */
    private static void holdsRow() {
        Edge.holds("holds a ROW", Edge.each(0, 4, sort -> "row(" + sort + ", " + sort + ", " + sort + ") = 1"),
            Edge.each(0, 4, sort -> "holds(" + sort + ") = " + sort),
            "holds(5) = -1; row(2, 5, 1) = -102; holds(2) = 2");
    }

    /** Promise 6, "10 and the number of a SHIP": the first, the second, the last there can be. */
    private static void holdsShip() {
        Edge.holds("holds a SHIP", Edge.each(0, 199, ship -> "ship(3, 9) = " + ship), """
            show(0, 0) = 1; holds(0) = 10; show(1, 1) = 1; holds(1) = 11; show(2, 198) = 1; holds(2) = 208
            show(3, 199) = 1; holds(3) = 209; show(4, 200) = -102; holds(4) = -1; status(19) = 4
            """);
    }

    /** Promise 7, "SHELF s holds a SHIP, or NOTHING": the SHELF is 0 to 7. */
    private static void showShelf() {
        Edge.holds("show's SHELF", """
            ship(3, 9) = 0; show(-1, 0) = -102; show(0, 0) = 1; show(1, 0) = 1; show(6, 0) = 1; show(7, 0) = 1
            show(8, 0) = -102
            status(19) = 4; show(-1, -1) = -102; show(0, -1) = 1; show(7, -1) = 1; show(8, -1) = -102; status(19) = 2
            show(2147483647, 0) = -102; show(-2147483648, -1) = -102; holds(0) = -1; holds(1) = 10; status(12) = 6
            """);
    }

    /** Promise 7, "a SHIP, or NOTHING (ship NONE): 1. BAD.": -2, NONE, the first, the last, one more. */
    private static void showShip() {
        Edge.holds("show's SHIP", """
            ship(3, 9) = 0; ship(4, 9) = 1; ship(5, 9) = 2
            show(0, -2) = -102; holds(0) = -1; show(0, -1) = 1; holds(0) = -1; show(0, 0) = 1; holds(0) = 10
            show(0, 1) = 1; holds(0) = 11; show(0, 2) = 1; holds(0) = 12; show(0, 3) = -102; holds(0) = 12
            show(0, -2) = -102; holds(0) = 12; show(0, 2147483647) = -102; show(0, -2147483648) = -102; holds(0) = 12
            ship(6, 9) = 3; show(0, 3) = 1; holds(0) = 13; status(12) = 5
            """);
    }

    /** Promise 7, "BAD": where there are no SHIPS. */
    private static void showOfNoShips() {
        Edge.holds("show of no SHIPS",
            "show(0, 0) = -102; show(0, -1) = 1; show(0, 1) = -102; ship(3, 9) = 0; show(0, 1) = -102\n",
            "show(0, 0) = 1; holds(0) = 10; status(12) = 3");
    }

    /** Promise 7, "or NOTHING (ship NONE)": where a ROW was, a SHIP, NOTHING. */
    private static void showNothing() {
        Edge.holds("show NOTHING", Edge.ints(0, 4, 5), """
            ship(3, 9) = 0; show(0, 0) = 1; holds(0) = 10; element(0, 0) = 0; set(0, 0, 1) = -103; show(0, -1) = 1
            holds(0) = -1
            set(0, 0, 1) = -104; show(0, -1) = 1; status(19) = 0; row(0, 2, 2) = 1; element(0, 0) = 0; element(0, 1) = 0
            show(0, -1) = 1; holds(0) = -1; status(6) = 1
            """);
    }

    /** Promise 8, "SHIP its HOUR": HOUR itself, the next, the last there can be. */
    private static void saysShip() {
        Edge.holds("a SHIP says its HOUR", """
            pass(2) = 2; ship(3, 2) = 0; ship(7, 3) = 1; ship(5, 1001) = 2; show(0, 0) = 1; show(1, 1) = 1
            show(2, 2) = 1
            says(0, 0) = 2; says(1, 0) = 3; says(2, 0) = 1001; pass(2) = 2; says(0, 0) = 2; says(1, 0) = 3
            """);
    }

    /** Promise 8, "SMALL how many things it would LACK in STORM by day": whatever HOUR and WEATHER are. */
    private static void saysSmall() {
        Edge.holds("SMALL says",
            "ship(3, 0) = 0; ship(4, 9) = 1; show(0, 0) = 1; show(1, 1) = 1; says(0, 1) = 1; says(1, 1) = 1\n",
            Edge.sky("s9", 1), "says(0, 1) = 1; says(1, 1) = 1; pass(10) = 6; says(0, 1) = 1; says(1, 1) = 1\n",
            "shipOf(0, 2) = 2; shipOf(1, 2) = 1");
    }

    /** Promise 8, "GREAT how many it would LACK in FOG, DARK, with neither LIGHT nor SIGNAL": whatever is so. */
    private static void saysGreat() {
        Edge.holds("GREAT says", Edge.each(5, 7, kind -> "ship(" + kind + ", 9) = " + (kind - 5)),
            Edge.each(0, 2, ship -> "show(" + ship + ", " + ship + ") = 1"),
            Edge.each(0, 2, s -> "says(" + s + ", 2) = 2"),
            "pass(10) = 6\n", Edge.each(0, 2, ship -> "shipOf(" + ship + ", 2) = 0"),
            Edge.each(0, 2, s -> "says(" + s + ", 2) = 2"));
    }

    /**
     * Promise 8, "FISHER, PILOT, COASTER what became of it (0 SAFE, 1 MISS, 2 WRECK; NONE: its HOUR hasn't passed ..".
     */
    private static void saysWhatBecame() {
        Edge.holds("what became of it is said", Edge.sky("c2 f1 s9", 3), """
            ship(3, 1) = 0; ship(4, 1) = 1; ship(5, 1) = 2; ship(3, 2) = 3; ship(4, 2) = 4; ship(5, 2) = 5
            show(0, 0) = 1; show(1, 1) = 1; show(2, 2) = 1; show(3, 3) = 1; show(4, 4) = 1; show(5, 5) = 1
            says(0, 3) = -1; pass(1) = 1; says(0, 3) = -1; says(1, 4) = -1; says(2, 5) = -1
            pass(1) = 1; says(0, 3) = 1; says(1, 4) = 0; says(2, 5) = 1; says(3, 3) = -1; says(4, 4) = -1
            says(5, 5) = -1
            pass(1) = 1; says(0, 3) = 1; says(1, 4) = 0; says(2, 5) = 1; says(3, 3) = 1; says(4, 4) = 1; says(5, 5) = 2
            """, Edge.refusals(0, 0, 0, 0, 0));
    }

    /** Promise 8, "2 WRECK": a FISHER's and a COASTER's in a dark STORM; a PILOT's is a MISS there. */
    private static void saysWreck() {
        Edge.holds("a WRECK is said", Edge.sky("s9", 1),
            "ship(3, 0) = 0; ship(4, 0) = 1; ship(5, 0) = 2; ship(3, 6) = 3\n", """
            show(0, 0) = 1; show(1, 1) = 1; show(2, 2) = 1; show(3, 3) = 1; pass(6) = 6
            says(0, 3) = 2; says(1, 4) = 1; says(2, 5) = 2; says(3, 3) = -1; pass(1) = 0; says(3, 3) = 1
            """);
    }

    /** Promise 8, "NONE: its HOUR hasn't passed since it came": one that came in that HOUR, and one behind back(). */
    private static void saysSinceItCame() {
        Edge.holds("since it came", """
            pass(1) = 1; ship(3, 0) = -102; ship(3, 1) = 0; show(0, 0) = 1; says(0, 3) = -1; image() = 1; pass(0) = 0
            says(0, 3) = -1; pass(1) = 1; says(0, 3) = 1; back() = 1; says(0, 3) = -1; pass(1) = 1; says(0, 3) = 1
            """);
    }

    /** Promise 8, "LINER what it met (0 to 3; NONE likewise)": also of MAIL. */
    private static void saysWhatItMet() {
        Edge.holds("what it met is said", Edge.sky("f9", 1), "keeper(0) = 0; tell(3, 9) = 0\n", Edge.watch(0, 1, 3), """
            ship(6, 0) = 0; ship(6, 1) = 1; ship(7, 2) = 2; ship(6, 3) = 3; ship(7, 3) = 4
            show(0, 0) = 1; show(1, 1) = 1; show(2, 2) = 1; show(3, 3) = 1; show(4, 4) = 1
            says(0, 6) = -1; pass(1) = 1; says(0, 6) = 0; says(1, 6) = -1; pass(1) = 0; says(1, 6) = 1
            tell(4, 2) = 0; says(2, 6) = -1; pass(1) = 0; says(2, 6) = 3; tell(3, 0) = 7; says(3, 6) = -1
            says(4, 6) = -1
            pass(1) = 1; says(3, 6) = 2; says(4, 6) = 2; says(0, 6) = 0
            """, Edge.refusals(0, 0, 0, 0, 0));
    }

    /** Promise 8, "MAIL 1 if it was a WRECK, else 0": NONE yet, SAFE, MISS, WRECK. */
    private static void saysMail() {
        Edge.holds("MAIL says", Edge.sky("c1 f1 s1 c9", 4),
            "ship(7, 0) = 0; ship(7, 1) = 1; ship(7, 2) = 2; ship(7, 6) = 3\n",
            Edge.each(0, 3, ship -> "show(" + ship + ", " + ship + ") = 1"),
            Edge.each(0, 3, s -> "says(" + s + ", 7) = 0"), """
            pass(3) = 3; shipOf(0, 2) = 1; says(0, 7) = 0; shipOf(1, 2) = 2; says(1, 7) = 1; shipOf(2, 2) = 2
            says(2, 7) = 1
            shipOf(3, 2) = -1; says(3, 7) = 0; pass(3) = 3; says(3, 7) = 0; pass(1) = 0; shipOf(3, 2) = 0
            says(3, 7) = 0
            """);
    }

    /** Promise 8, "BAD SHELF": ahead of what it holds. */
    private static void saysBadShelf() {
        Edge.holds("says' SHELF", "ship(3, 5) = 0; show(0, 0) = 1; show(7, 0) = 1\n", """
            says(-1, 0) = -102; says(0, 0) = 5; says(7, 0) = 5; says(8, 0) = -102; says(-2147483648, 0) = -102
            says(8, 8) = -102
            """, Edge.refusals(4, 0, 0, 0, 0));
    }

    /** Promise 8, "KIND (0 to 7)": ahead of what the SHELF holds. */
    private static void saysBadKind() {
        Edge.holds("says' KIND", "ship(7, 5) = 0; show(0, 0) = 1; row(1, 0, 1) = 1\n", """
            says(0, -1) = -102; says(0, 0) = 5; says(0, 1) = -103; says(0, 6) = -1; says(0, 7) = 0; says(0, 8) = -102
            says(1, -1) = -102; says(1, 8) = -102; says(2, -1) = -102; says(2, 8) = -102; says(0, 2147483647) = -102
            """, Edge.refusals(7, 1, 0, 0, 0));
    }

    /** Promise 8, "OTHER (also if it is of no such KIND nor of one under it)": of each KIND those beside it. */
    private static void saysOther() {
        Edge.holds("says OTHER", Edge.each(3, 7, kind -> "ship(" + kind + ", 9) = " + (kind - 3)),
            Edge.each(3, 7, kind -> "show(" + kind + ", " + (kind - 3) + ") = 1"), "row(0, 2, 3) = 1\n", """
            says(0, 0) = -103; says(0, 7) = -103; says(3, 2) = -103; says(3, 3) = -1; says(3, 4) = -103
            says(4, 3) = -103; says(4, 4) = -1; says(4, 5) = -103; says(4, 2) = -103; says(4, 1) = 1
            says(5, 4) = -103; says(5, 5) = -1; says(5, 6) = -103; says(5, 1) = -103; says(5, 2) = 2
            says(6, 5) = -103; says(6, 6) = -1; says(6, 7) = -103; says(6, 2) = 2
            says(7, 5) = -103; says(7, 6) = -1; says(7, 7) = 0; says(7, 2) = 2; says(7, 1) = -103; says(7, 0) = 9
            """, Edge.refusals(0, 14, 0, 0, 0));
    }

    /** Promise 8, "NOTHING. (NONE isn't refused.)". */
    private static void saysNothing() {
        Edge.holds("says of NOTHING",
            "ship(3, 9) = 0; show(0, 0) = 1; says(0, 3) = -1; says(1, 0) = -104; says(1, 3) = -104\n",
            "show(0, -1) = 1; says(0, 3) = -104; show(0, 0) = 1; says(0, 3) = -1\n", Edge.refusals(0, 0, 3, 0, 0));
    }
}
