/** The edges that the terms of "2. AN HOUR PASSES" name, a sentence or a part of one each. */
public final class EdgeHourTest {
    /** No HOUR is DARK. */
    private static final String NO_NIGHT = "tell(0, 0) = 6; tell(1, 24) = 18\n";

    public static void main(String[] args) {
        signalAheadOfTheBoat();
        tiredAheadOfTheBoat();
        lampAheadOfTheShips();
        watchModulo24();
        boyAsleep();
        handAsleep();
        headAsleep();
        tended();
        lampByDay();
        lampByTheOneHourOfDay();
        lampUntended();
        lampThatWasNotLit();
        oilAndWickTended();
        oilAndWickUntended();
        oilAndTheGreatestWick();
        otherCases();
        signalInFog();
        signalCoal();
        signalTended();
        shipsOfTheHour();
        shipsByRank();
        lightLacked();
        lightOfMail();
        soundLacked();
        roomLacked();
        noneOneOrTwo();
        greatInStorm();
        ownLog();
        logInTheDark();
        logOfTheSignal();
        logOfShips();
        logOnlyIfTended();
        filledIn();
        filledInByBoysAlone();
        entriesAtMost();
        entriesOfAnHourCutOff();
        tiredIfTended();
        tiredLessTwo();
        boatNotDue();
        boatDueOrLater();
        boatByDay();
        boatBringsAtMost();
        boatRestsAll();
        boatRestsSixKeepers();
        boatIsDueAgain();
        hourIsOneMore();
        unlit();
        Check.end();
    }

    /** Terms 2, "In this order": the SIGNAL has no COAL of THE BOAT that comes in the same HOUR. */
    private static void signalAheadOfTheBoat() {
        Edge.holds("SIGNAL ahead of THE BOAT", Edge.sky("f9", 1), """
            keeper(0) = 0; plan(6, 0) = -1; boat(0, 6) = -1; boat(3, 5) = 0; ship(5, 6) = 0; ship(5, 30) = 1
            pass(6) = 6; pass(1) = 0; status(2) = 5; shipOf(0, 2) = 1; shipOf(0, 3) = 0; logged(3) = 0
            pass(24) = 12; status(2) = 4; shipOf(1, 2) = 0; shipOf(1, 3) = 2; logged(3) = 1
            """);
    }

    /** Terms 2, "In this order": who TENDED while THE BOAT comes isn't TIRED behind it. */
    private static void tiredAheadOfTheBoat() {
        Edge.holds("TIRED ahead of THE BOAT", """
            keeper(0) = 0; plan(5, 0) = -1; plan(6, 0) = -1; plan(7, 0) = -1; boat(0, 6) = -1
            pass(6) = 6; keeperOf(0, 1) = 1; pass(1) = 0; status(11) = 1; keeperOf(0, 1) = 0; keeperOf(0, 4) = 2
            pass(1) = 0; keeperOf(0, 1) = 1; keeperOf(0, 4) = 3
            """);
    }

    /** Terms 2, "In this order": SHIPS find the LAMP of their own HOUR. */
    private static void lampAheadOfTheShips() {
        Edge.holds("LAMP ahead of SHIPS", """
            keeper(0) = 0; plan(1, 0) = -1; tell(3, 9) = 0; ship(5, 0) = 0; ship(5, 1) = 1; ship(5, 2) = 2
            ship(5, 3) = 3
            pass(4) = 2; shipOf(0, 2) = 1; shipOf(1, 2) = 0; shipOf(2, 2) = 0; shipOf(3, 2) = 1
            """);
    }

    /** Terms 2, "WATCH: the KEEPER of THE PLAN for HOUR modulo 24". */
    private static void watchModulo24() {
        Edge.holds("WATCH modulo 24", """
            keeper(0) = 0; keeper(1) = 1; plan(23, 0) = -1; plan(0, 1) = -1
            pass(1) = 1; keeperOf(0, 4) = 0; keeperOf(1, 4) = 1; pass(22) = 10; keeperOf(0, 4) = 0; keeperOf(1, 4) = 1
            pass(1) = 1; keeperOf(0, 4) = 1; keeperOf(1, 4) = 1; pass(1) = 1; keeperOf(0, 4) = 1; keeperOf(1, 4) = 2
            pass(1) = 1; keeperOf(0, 4) = 1; keeperOf(1, 4) = 2; pass(21) = 9; keeperOf(0, 4) = 1; keeperOf(1, 4) = 2
            pass(1) = 1; keeperOf(0, 4) = 2; keeperOf(1, 4) = 2; pass(1) = 1; keeperOf(0, 4) = 2; keeperOf(1, 4) = 3
            """);
    }

    /** Terms 2, "is his TIRED as much as he LASTS, or more, he is ASLEEP": a BOY of 5, 7, 6. */
    private static void boyAsleep() {
        Edge.holds("BOY ASLEEP", Edge.sky("c5 s1 c93", 3), "keeper(2) = 0\n", Edge.watch(0, 0, 23), """
            pass(5) = 5; keeperOf(0, 1) = 5; keeperOf(0, 4) = 5; keeperOf(0, 5) = 0
            pass(1) = 1; keeperOf(0, 1) = 7; keeperOf(0, 4) = 6; keeperOf(0, 5) = 0
            pass(1) = 0; keeperOf(0, 1) = 5; keeperOf(0, 4) = 6; keeperOf(0, 5) = 1
            pass(1) = 0; keeperOf(0, 1) = 6; keeperOf(0, 4) = 7; keeperOf(0, 5) = 1
            pass(1) = 0; keeperOf(0, 1) = 4; keeperOf(0, 4) = 7; keeperOf(0, 5) = 2
            """);
    }

    /** Terms 2, "is his TIRED as much as he LASTS, or more, he is ASLEEP": a HAND of 8, 10, 9. */
    private static void handAsleep() {
        Edge.holds("HAND ASLEEP", Edge.sky("c8 s1 c90", 3), "keeper(1) = 0\n", Edge.watch(0, 0, 23), """
            pass(8) = 6; keeperOf(0, 1) = 8; keeperOf(0, 4) = 8; keeperOf(0, 5) = 0
            pass(1) = 0; keeperOf(0, 1) = 10; keeperOf(0, 4) = 9; keeperOf(0, 5) = 0
            pass(1) = 0; keeperOf(0, 1) = 8; keeperOf(0, 4) = 9; keeperOf(0, 5) = 1
            pass(1) = 0; keeperOf(0, 1) = 9; keeperOf(0, 4) = 10; keeperOf(0, 5) = 1
            pass(1) = 0; keeperOf(0, 1) = 7; keeperOf(0, 4) = 10; keeperOf(0, 5) = 2
            """);
    }

    /** Terms 2, "is his TIRED as much as he LASTS, or more, he is ASLEEP": a HEAD of 11, 13, 12. */
    private static void headAsleep() {
        Edge.holds("HEAD ASLEEP", Edge.sky("c11 s1 c87", 3), "keeper(0) = 0\n", Edge.watch(0, 0, 23), """
            pass(11) = 6; keeperOf(0, 1) = 11; keeperOf(0, 4) = 11; keeperOf(0, 5) = 0
            pass(1) = 0; keeperOf(0, 1) = 13; keeperOf(0, 4) = 12; keeperOf(0, 5) = 0
            pass(1) = 0; keeperOf(0, 1) = 11; keeperOf(0, 4) = 12; keeperOf(0, 5) = 1
            pass(1) = 0; keeperOf(0, 1) = 12; keeperOf(0, 4) = 13; keeperOf(0, 5) = 1
            pass(1) = 0; keeperOf(0, 1) = 10; keeperOf(0, 4) = 13; keeperOf(0, 5) = 2
            """);
    }

    /** Terms 2, "TENDED: there is one, and he isn't ASLEEP": nobody, one who is, one who isn't. */
    private static void tended() {
        Edge.holds("TENDED", "keeper(1) = 0; tell(3, 9) = 0\n", Edge.watch(0, 9, 19), """
            pass(1) = 1; logged(0) = 0; status(1) = 9; keeperOf(0, 4) = 0; keeperOf(0, 5) = 0
            pass(17) = 5; logged(0) = 0; keeperOf(0, 4) = 9; keeperOf(0, 5) = 0; keeperOf(0, 1) = 9
            pass(1) = 1; logged(0) = 0; status(1) = 9; status(3) = 0; keeperOf(0, 4) = 9; keeperOf(0, 5) = 1
            pass(1) = 0; logged(0) = 1; status(1) = 8; status(3) = 1; keeperOf(0, 4) = 10; keeperOf(0, 5) = 1
            """);
    }

    /** Terms 2, "LAMP: not DARK: not LIT, UNTENDED 0": at DAWN and at DUSK, TENDED and not. */
    private static void lampByDay() {
        Edge.holds("LAMP by day", """
            keeper(0) = 0; tell(3, 20) = 0; plan(4, 0) = -1; plan(6, 0) = -1; plan(17, 0) = -1; plan(19, 0) = -1
            pass(5) = 4; status(3) = 1; status(4) = 0; status(1) = 19
            pass(1) = 0; status(3) = 1; status(4) = 1; status(1) = 18
            pass(1) = 0; status(3) = 0; status(4) = 0; status(1) = 18
            pass(1) = 0; status(3) = 0; status(4) = 0; status(1) = 18
            pass(10) = 0; status(3) = 0; status(4) = 0; status(1) = 18
            pass(1) = 1; status(3) = 0; status(4) = 0; status(1) = 18
            pass(1) = 0; status(3) = 1; status(4) = 0; status(1) = 17
            plan(5, 0) = -1; pass(10) = 7; status(3) = 1; status(4) = 0; status(1) = 14
            pass(1) = 0; status(3) = 0; status(4) = 0; status(1) = 14
            """);
    }

    /** Terms 2, "LAMP: not DARK: not LIT": an hour of day is enough that the LAMP wasn't LIT in the next. */
    private static void lampByTheOneHourOfDay() {
        Edge.holds("LAMP by one hour of day", """
            tell(0, 12) = 6; tell(1, 13) = 18; keeper(0) = 0; tell(3, 9) = 0; plan(11, 0) = -1
            pass(11) = 11; status(3) = 0; pass(1) = 0; status(3) = 1; status(1) = 8
            pass(1) = 0; status(3) = 0; pass(1) = 1; status(3) = 0; status(1) = 8
            """);
    }

    /** Terms 2, "DARK: if it is TENDED, or it was LIT and UNTENDED is 0": the first HOUR untended, the second. */
    private static void lampUntended() {
        Edge.holds("LAMP untended", """
            keeper(0) = 0; tell(3, 20) = 0; plan(0, 0) = -1; plan(3, 0) = -1; plan(5, 0) = -1
            pass(1) = 0; status(3) = 1; status(4) = 0; status(1) = 19
            pass(1) = 0; status(3) = 1; status(4) = 1; status(1) = 18
            pass(1) = 1; status(3) = 0; status(4) = 0; status(1) = 18
            pass(1) = 0; status(3) = 1; status(4) = 0; status(1) = 17
            pass(1) = 0; status(3) = 1; status(4) = 1; status(1) = 16
            pass(1) = 0; status(3) = 1; status(4) = 0; status(1) = 15
            pass(17) = 5; plan(23, 0) = -1; status(3) = 0; status(1) = 15
            pass(1) = 0; status(3) = 1; status(4) = 0; status(1) = 14
            plan(0, -1) = 0; pass(1) = 0; status(0) = 25; status(3) = 1; status(4) = 1; status(1) = 13
            pass(1) = 1; status(3) = 0; status(4) = 0; status(1) = 13
            """);
    }

    /** Terms 2, "it was LIT and UNTENDED is 0": not LIT, UNTENDED 0 isn't enough. */
    private static void lampThatWasNotLit() {
        Edge.holds("LAMP that wasn't LIT", """
            tell(3, 20) = 0; pass(1) = 1; status(3) = 0; status(4) = 0; keeper(0) = 0; plan(1, 0) = -1
            pass(1) = 0; status(3) = 1; pass(1) = 0; status(3) = 1; status(4) = 1
            pass(1) = 1; status(3) = 0; status(4) = 0; pass(1) = 1; status(3) = 0; status(4) = 0
            pass(1) = 1; status(3) = 0; status(1) = 18
            """);
    }

    /**
     * Terms 2, "if OIL is WICK at least: LIT, OIL is WICK less, UNTENDED 0 if it is TENDED": one less, as much, one
     * more.
     */
    private static void oilAndWickTended() {
        Edge.holds("OIL and WICK, TENDED", "keeper(0) = 0\n", Edge.watch(0, 0, 5), """
            tell(3, 0) = 0; pass(1) = 1; status(3) = 0; status(1) = 0
            tell(3, 1) = 0; pass(1) = 0; status(3) = 1; status(4) = 0; status(1) = 0
            tell(2, 3) = 1; tell(3, 2) = 0; pass(1) = 1; status(3) = 0; status(4) = 0; status(1) = 2
            tell(3, 3) = 2; pass(1) = 0; status(3) = 1; status(4) = 0; status(1) = 0
            tell(3, 4) = 0; pass(1) = 0; status(3) = 1; status(4) = 0; status(1) = 1
            pass(1) = 1; status(3) = 0; status(4) = 0; status(1) = 1
            """);
    }

    /** Terms 2, "if OIL is WICK at least: .. UNTENDED 0 if it is TENDED, else 1": one less, as much, one more. */
    private static void oilAndWickUntended() {
        Edge.holds("OIL and WICK, untended", """
            keeper(0) = 0; plan(0, 0) = -1; plan(2, 0) = -1; plan(4, 0) = -1; tell(2, 3) = 1
            tell(3, 5) = 0; pass(1) = 0; status(1) = 2; pass(1) = 1; status(3) = 0; status(4) = 0; status(1) = 2
            tell(3, 6) = 2; pass(1) = 0; status(1) = 3; pass(1) = 0; status(3) = 1; status(4) = 1; status(1) = 0
            tell(3, 7) = 0; pass(1) = 0; status(1) = 4; pass(1) = 0; status(3) = 1; status(4) = 1; status(1) = 1
            """);
    }

    /** Terms 2, "if OIL is WICK at least": WICK 4, OIL 3, 4, 5 and 9999. */
    private static void oilAndTheGreatestWick() {
        Edge.holds("OIL and WICK 4", "keeper(0) = 0; tell(2, 4) = 1\n", Edge.watch(0, 0, 5), """
            tell(3, 3) = 0; pass(1) = 1; status(1) = 3; tell(3, 4) = 3; pass(1) = 0; status(1) = 0
            tell(3, 5) = 0; pass(1) = 0; status(1) = 1; tell(3, 9999) = 1; pass(1) = 0; status(1) = 9995
            """);
    }

    /** Terms 2, "In all other cases not LIT (UNTENDED 0)": a LAMP that is UNTENDED 1 and can't burn on. */
    private static void otherCases() {
        Edge.holds("LAMP in other cases", """
            keeper(0) = 0; plan(0, 0) = -1; plan(2, 0) = -1; tell(3, 2) = 0
            pass(2) = 0; status(3) = 1; status(4) = 1; status(1) = 0
            pass(1) = 1; status(3) = 0; status(4) = 0; tell(3, 5) = 0; pass(1) = 1; status(3) = 0; status(4) = 0
            status(1) = 5
            """);
    }

    /** Terms 2, "SIGNAL: in FOG": not in CLEAR, not in STORM. */
    private static void signalInFog() {
        Edge.holds("SIGNAL in FOG", NO_NIGHT, Edge.sky("c1 f1 s1 f1", 4), "keeper(0) = 0; tell(4, 5) = 0\n",
            Edge.watch(0, 0, 3), """
            pass(1) = 0; status(2) = 5; logged(3) = 0; pass(1) = 0; status(2) = 4; logged(3) = 1
            pass(1) = 0; status(2) = 4; logged(3) = 1; pass(1) = 0; status(2) = 3; logged(3) = 2
            """);
    }

    /** Terms 2, "and COAL is 1 at least: it sounds, COAL is 1 less": 0, 1, 2. */
    private static void signalCoal() {
        Edge.holds("SIGNAL and COAL", Edge.sky("f9", 1), "keeper(0) = 0\n", Edge.watch(0, 0, 7), """
            pass(1) = 1; status(2) = 0; logged(3) = 0; tell(4, 1) = 0; pass(1) = 1; status(2) = 0; logged(3) = 1
            tell(4, 2) = 0; pass(1) = 1; status(2) = 1; logged(3) = 2; pass(1) = 1; status(2) = 0; logged(3) = 3
            pass(1) = 1; status(2) = 0; logged(3) = 3; tell(4, 9999) = 0; pass(2) = 1; status(2) = 9997; logged(3) = 5
            """);
    }

    /** Terms 2, "SIGNAL: in FOG, if it is TENDED": nobody, one who is awake, one who is ASLEEP. */
    private static void signalTended() {
        Edge.holds("SIGNAL TENDED", NO_NIGHT, Edge.sky("f9", 1), "keeper(2) = 0; tell(4, 9) = 0\n", Edge.watch(0, 1, 8),
            """
            pass(1) = 0; status(2) = 9; logged(3) = 0; pass(1) = 0; status(2) = 8; logged(3) = 1
            pass(5) = 0; status(2) = 3; logged(3) = 6; keeperOf(0, 1) = 6
            pass(1) = 0; status(2) = 3; logged(3) = 6; keeperOf(0, 5) = 1; pass(1) = 0; status(2) = 2; logged(3) = 7
            """);
    }

    /** Terms 2, "SHIPS of HOUR": neither those of the HOUR ahead nor of the next. */
    private static void shipsOfTheHour() {
        Edge.holds("SHIPS of HOUR", """
            ship(3, 0) = 0; ship(4, 1) = 1; ship(5, 2) = 2; pass(0) = 0; shipOf(0, 2) = -1; shipOf(0, 3) = -1
            pass(1) = 1; shipOf(0, 2) = 1; shipOf(1, 2) = -1; shipOf(2, 2) = -1
            pass(1) = 1; shipOf(0, 2) = 1; shipOf(1, 2) = 0; shipOf(2, 2) = -1; shipOf(2, 3) = -1
            pass(1) = 1; shipOf(0, 2) = 1; shipOf(1, 2) = 0; shipOf(2, 2) = 1; shipOf(2, 3) = 0
            ship(5, 26) = 3; pass(23) = 11; shipOf(3, 2) = -1; pass(1) = 1; shipOf(3, 2) = 1; shipOf(2, 2) = 1
            """);
    }

    /** Terms 2, "SHIPS of HOUR, BY RANK": in that order they come into THE LOG. */
    private static void shipsByRank() {
        Edge.holds("SHIPS of HOUR, BY RANK", """
            keeper(0) = 0; plan(6, 0) = -1
            ship(3, 6) = 0; ship(7, 6) = 1; ship(3, 6) = 2; ship(5, 6) = 3; ship(7, 6) = 4; pass(7) = 6; status(7) = 5
            log(0, 2) = 1; log(1, 2) = 4; log(2, 2) = 3; log(3, 2) = 0; log(4, 2) = 2
            """);
    }

    /** Terms 2, "LIGHT, if it is DARK, and not LIT (not PILOT": at DAWN, at DUSK, LIT and not. */
    private static void lightLacked() {
        Edge.holds("LIGHT lacked", "keeper(0) = 0; tell(3, 9) = 0; plan(20, 0) = -1\n",
            Edge.each(0, 3, i -> "ship(5, " + new int[] {5, 6, 17, 18}[i] + ") = " + i),
            Edge.each(3, 7, kind -> "ship(" + kind + ", 19) = " + (kind + 1)),
            Edge.each(3, 7, kind -> "ship(" + kind + ", 20) = " + (kind + 6)), "pass(21) = 8\n",
            "shipOf(0, 2) = 1; shipOf(1, 2) = 0; shipOf(2, 2) = 0; shipOf(3, 2) = 1\n",
            "shipOf(4, 2) = 1; shipOf(5, 2) = 0; shipOf(6, 2) = 1; shipOf(7, 2) = 1; shipOf(8, 2) = 1\n",
            Edge.each(9, 13, ship -> "shipOf(" + ship + ", 2) = 0"));
    }

    /**
     * Terms 2, "MAIL also if not DARK, in STORM: it is never LIT then)": by day and in the dark, in CLEAR, FOG, STORM.
     */
    private static void lightOfMail() {
        Edge.holds("LIGHT of MAIL", Edge.sky("s6 c1 f1 s10 s6", 5), "keeper(0) = 0; tell(3, 9) = 0; tell(4, 9) = 0\n",
            """
            plan(5, 0) = -1; plan(6, 0) = -1; plan(7, 0) = -1; plan(8, 0) = -1
            ship(7, 3) = 0; ship(7, 5) = 1; ship(7, 6) = 2; ship(7, 7) = 3; ship(7, 8) = 4; ship(6, 8) = 5
            ship(7, 17) = 6; ship(6, 17) = 7; ship(7, 18) = 8; ship(6, 18) = 9
            pass(19) = 6
            shipOf(0, 2) = 2; shipOf(1, 2) = 0; shipOf(2, 2) = 0; shipOf(3, 2) = 0; shipOf(4, 2) = 2; shipOf(5, 2) = 0
            shipOf(4, 3) = 0; shipOf(6, 2) = 2; shipOf(7, 2) = 0; shipOf(8, 2) = 2; shipOf(9, 2) = 2
            """);
    }

    /** Terms 2, "SOUND, in FOG, if there is no SIGNAL (not FISHER)": FOG without and with, CLEAR. */
    private static void soundLacked() {
        Edge.holds("SOUND lacked", Edge.sky("f8 c1 f9", 3),
            "keeper(0) = 0; tell(4, 1) = 0; plan(7, 0) = -1; plan(9, 0) = -1\n",
            Edge.each(0, 19, i -> "ship(" + (3 + i % 5) + ", " + (6 + i / 5) + ") = " + i), "pass(10) = 6\n", """
            shipOf(0, 2) = 0; shipOf(1, 2) = 1; shipOf(2, 2) = 1; shipOf(3, 2) = 1; shipOf(4, 2) = 1
            shipOf(5, 2) = 0; shipOf(6, 2) = 0; shipOf(7, 2) = 0; shipOf(8, 2) = 0; shipOf(9, 2) = 0
            shipOf(10, 2) = 0; shipOf(11, 2) = 0; shipOf(12, 2) = 0; shipOf(13, 2) = 0; shipOf(14, 2) = 0
            shipOf(15, 2) = 0; shipOf(16, 2) = 1; shipOf(17, 2) = 1; shipOf(18, 2) = 1; shipOf(19, 2) = 1
            shipOf(3, 3) = 0; shipOf(8, 3) = 2; shipOf(13, 3) = 0; shipOf(18, 3) = 0
            """);
    }

    /** Terms 2, "ROOM, in STORM (SMALL alone)": FOG with a SIGNAL, STORM, CLEAR by day. */
    private static void roomLacked() {
        Edge.holds("ROOM lacked", Edge.sky("f7 s1 c9", 3), "keeper(0) = 0; tell(4, 1) = 0; plan(6, 0) = -1\n",
            Edge.each(0, 11, i -> "ship(" + (3 + i % 4) + ", " + (6 + i / 4) + ") = " + i), "pass(9) = 6\n", """
            shipOf(0, 2) = 0; shipOf(1, 2) = 0; shipOf(2, 2) = 0; shipOf(3, 2) = 0
            shipOf(4, 2) = 1; shipOf(5, 2) = 1; shipOf(6, 2) = 0; shipOf(7, 2) = 0
            shipOf(8, 2) = 0; shipOf(9, 2) = 0; shipOf(10, 2) = 0; shipOf(11, 2) = 0
            """);
    }

    /** Terms 2, "LACKS none: it is SAFE; 1: a MISS, .. 2 or more: a WRECK": a FISHER, a COASTER. */
    private static void noneOneOrTwo() {
        Edge.holds("LACKS none, 1, 2", Edge.sky("s1 f1 c1 c3 s1 c1", 6), """
            ship(3, 7) = 0; ship(3, 6) = 1; ship(3, 0) = 2; ship(5, 7) = 3; ship(5, 2) = 4; ship(5, 1) = 5
            ship(3, 2) = 6; ship(3, 1) = 7; ship(4, 0) = 8; ship(4, 1) = 9; ship(4, 2) = 10; pass(8) = 6
            shipOf(0, 2) = 0; shipOf(1, 2) = 1; shipOf(2, 2) = 2; shipOf(3, 2) = 0; shipOf(4, 2) = 1; shipOf(5, 2) = 2
            shipOf(6, 2) = 1; shipOf(7, 2) = 1; shipOf(8, 2) = 1; shipOf(9, 2) = 1; shipOf(10, 2) = 0
            many(0, 0) = 3; many(0, 1) = 6; many(0, 2) = 2
            """);
    }

    /** Terms 2, "1: a MISS, but for GREAT in STORM: a WRECK": GREAT in CLEAR, FOG and STORM, SMALL in STORM. */
    private static void greatInStorm() {
        Edge.holds("GREAT in STORM", Edge.sky("c1 s1 c4 f1 s1", 5), """
            ship(5, 0) = 0; ship(6, 0) = 1; ship(7, 0) = 2; ship(5, 1) = 3; ship(6, 1) = 4; ship(7, 1) = 5
            ship(5, 6) = 6; ship(6, 6) = 7; ship(7, 6) = 8; ship(5, 7) = 9; ship(6, 7) = 10; ship(7, 7) = 11
            ship(3, 7) = 12; ship(4, 7) = 13; ship(4, 1) = 14; pass(8) = 6
            shipOf(0, 2) = 1; shipOf(1, 2) = 1; shipOf(2, 2) = 1; shipOf(3, 2) = 2; shipOf(4, 2) = 2; shipOf(5, 2) = 2
            shipOf(6, 2) = 1; shipOf(7, 2) = 1; shipOf(8, 2) = 1; shipOf(9, 2) = 0; shipOf(10, 2) = 0; shipOf(11, 2) = 2
            shipOf(12, 2) = 1; shipOf(13, 2) = 1; shipOf(14, 2) = 1
            """);
    }

    /** Terms 2, "Its own log gets what it met: 1 LIGHT, if LIT; 2 SOUND, if SIGNAL; 3 both; 0 nothing". */
    private static void ownLog() {
        Edge.holds("a SHIP's own log", Edge.sky("f2 c1 f3 f1 c1", 5), "keeper(0) = 0; tell(4, 2) = 0\n",
            Edge.watch(0, 0, 3),
            Edge.each(0, 7, hour -> "ship(3, " + hour + ") = " + hour), "plan(6, 0) = -1\n", """
            pass(1) = 1; shipOf(0, 3) = 2; tell(3, 9) = 0; pass(1) = 0; shipOf(1, 3) = 3
            pass(1) = 0; shipOf(2, 3) = 1; pass(1) = 0; shipOf(3, 3) = 1
            pass(1) = 0; status(4) = 1; shipOf(4, 3) = 1; pass(1) = 1; shipOf(5, 3) = 0; shipOf(6, 3) = -1
            tell(4, 1) = 0; pass(1) = 0; shipOf(6, 3) = 2; shipOf(7, 3) = -1; pass(1) = 0; shipOf(7, 3) = 0
            """);
    }

    /**
     * Terms 2, "THE LOG, if it is TENDED, by him: LIT (1) or DARK (2), if it is DARK": at DAWN, at DUSK, LIT and not.
     */
    private static void logInTheDark() {
        Edge.holds("THE LOG in the dark", "keeper(1) = 0; keeper(1) = 1; tell(3, 1) = 0\n", Edge.watch(1, 4, 7),
            Edge.watch(0, 17, 18), """
            pass(4) = 4; status(7) = 0
            pass(1) = 0; status(7) = 1; log(0, 0) = 4; log(0, 1) = 1; log(0, 2) = -1; log(0, 3) = 1
            pass(1) = 1; status(7) = 2; log(1, 0) = 5; log(1, 1) = 2; log(1, 2) = -1; log(1, 3) = 1
            pass(1) = 0; status(7) = 2; pass(1) = 0; status(7) = 2; pass(10) = 0; status(7) = 2
            tell(3, 1) = 0; pass(1) = 0; status(7) = 3; log(2, 0) = 18; log(2, 1) = 1; log(2, 2) = -1; log(2, 3) = 0
            pass(1) = 1; status(7) = 3
            """);
    }

    /** Terms 2, "SOUNDED (3), if SIGNAL": with COAL and without. */
    private static void logOfTheSignal() {
        Edge.holds("THE LOG of the SIGNAL", Edge.sky("f9", 1), "keeper(0) = 0; tell(4, 2) = 0\n", Edge.watch(0, 5, 7),
            """
            pass(5) = 5; status(7) = 0
            pass(1) = 1; status(7) = 2; log(0, 1) = 2; log(1, 0) = 5; log(1, 1) = 3; log(1, 2) = -1; log(1, 3) = 0
            pass(1) = 0; status(7) = 3; log(2, 0) = 6; log(2, 1) = 3; log(2, 2) = -1; log(2, 3) = 0
            pass(1) = 0; status(7) = 3; status(2) = 0
            """);
    }

    /** Terms 2, "for each SHIP, BY RANK: SAFE (4), MISS (5), WRECK (6), with its number". */
    private static void logOfShips() {
        Edge.holds("THE LOG of SHIPS", Edge.sky("f1", 1),
            "keeper(0) = 0; plan(0, 0) = -1; plan(1, 0) = -1; tell(3, 1) = 0\n", """
            ship(3, 0) = 0; ship(4, 0) = 1; ship(3, 1) = 2; ship(6, 1) = 3; ship(5, 2) = 4; pass(1) = 0; status(7) = 3
            log(0, 1) = 1; log(0, 2) = -1; log(1, 1) = 5; log(1, 2) = 1; log(2, 1) = 4; log(2, 2) = 0
            pass(1) = 1; status(7) = 6
            log(3, 1) = 2; log(3, 2) = -1; log(4, 1) = 6; log(4, 2) = 3; log(5, 1) = 5; log(5, 2) = 2; log(5, 0) = 1
            pass(1) = 1; shipOf(4, 2) = 2; status(7) = 6
            """);
    }

    /** Terms 2, "THE LOG, if it is TENDED": neither if nobody is there nor by a HAND or HEAD who is ASLEEP. */
    private static void logOnlyIfTended() {
        Edge.holds("THE LOG if TENDED", "keeper(1) = 0\n", Edge.watch(0, 9, 19), """
            ship(3, 0) = 0; ship(3, 17) = 1; ship(3, 18) = 2; ship(3, 19) = 3; ship(3, 20) = 4
            pass(17) = 6; status(7) = 0; pass(1) = 0; status(7) = 1; log(0, 0) = 17; log(0, 1) = 4
            pass(1) = 1; keeperOf(0, 5) = 1; status(7) = 1; shipOf(2, 2) = 1
            pass(1) = 1; status(7) = 3; log(1, 0) = 19; log(1, 1) = 2; log(2, 1) = 5; log(2, 2) = 3
            pass(1) = 1; status(7) = 3; shipOf(4, 2) = 1
            """);
    }

    /**
     * Terms 2, "If a BOY is ASLEEP on WATCH: LIT (1), if it is DARK, whatever is so (FILLED IN)": awake in the dark of
     * 5, ASLEEP while the LAMP burns on at 6, ASLEEP at 8, 10 by day and 13; no SIGNAL and no SHIP of his comes in.
     */
    private static void filledIn() {
        Edge.holds("FILLED IN", "keeper(2) = 0; tell(0, 10) = 6; tell(1, 13) = 18; tell(3, 7) = 0\n",
            Edge.watch(0, 0, 23), """
            ship(3, 6) = 0; ship(3, 9) = 1; pass(6) = 0; status(7) = 6; log(5, 0) = 5; log(5, 1) = 1; keeperOf(0, 5) = 0
            pass(1) = 0; status(7) = 7; log(6, 0) = 6; log(6, 1) = 1; log(6, 2) = -1; log(6, 3) = 0; status(4) = 1
            pass(2) = 2; status(7) = 9; log(7, 0) = 7; log(7, 1) = 2; log(8, 0) = 8; log(8, 1) = 2
            keeperOf(0, 1) = 6; pass(1) = 1; status(7) = 10; log(9, 0) = 9; log(9, 1) = 1; log(9, 2) = -1; log(9, 3) = 0
            shipOf(1, 2) = 1; pass(2) = 0; keeperOf(0, 1) = 6; status(7) = 10
            pass(1) = 0; keeperOf(0, 5) = 3; status(7) = 10; pass(1) = 1; status(7) = 11; log(10, 0) = 13
            log(10, 1) = 2
            """);
    }

    /** Terms 2, "If a BOY is ASLEEP on WATCH": not a HEAD, not a HAND, and not a BOY who isn't on WATCH. */
    private static void filledInByBoysAlone() {
        Edge.holds("FILLED IN by a BOY alone", Edge.sky("s9", 1),
            "tell(0, 12) = 6; keeper(0) = 0; keeper(1) = 1; keeper(2) = 2\n",
            "plan(0, 2) = -1; plan(1, 2) = -1; plan(2, 2) = -1; plan(4, 2) = -1\n", """
            pass(3) = 3; status(7) = 3; logged(2) = 3; keeperOf(2, 1) = 6
            pass(1) = 1; status(7) = 3; keeperOf(2, 1) = 4; keeperOf(2, 5) = 0
            pass(1) = 1; status(7) = 4; logged(2) = 4; keeperOf(2, 1) = 6; plan(5, 2) = -1
            pass(1) = 1; status(7) = 5; logged(1) = 1; keeperOf(2, 5) = 1
            """, Edge.watch(1, 6, 11), """
            pass(5) = 5; status(7) = 10; logged(2) = 9; keeperOf(1, 1) = 10
            pass(1) = 1; status(7) = 10; keeperOf(1, 5) = 1; logged(1) = 1
            """, Edge.watch(0, 12, 18), """
            pass(6) = 0; status(7) = 10; keeperOf(0, 1) = 12; keeperOf(0, 5) = 0
            pass(1) = 1; status(7) = 10; keeperOf(0, 5) = 1; logged(1) = 1; logged(2) = 9
            """);
    }

    /** Six HEADS on four hours each, so that nobody sleeps and each of the 23 dark hours of a day is entered. */
    private static final String ALWAYS_TENDED = "tell(0, 12) = 6; tell(1, 13) = 18; tell(3, 9999) = 0\n"
        + Edge.each(0, 5, k -> "keeper(0) = " + k) + Edge.each(0, 23,
        hour -> "plan(" + hour + ", " + hour / 4 + ") = -1");

    /** Terms 2, "400 at most (then those that come are lost)": 399, 400, and no 401. */
    private static void entriesAtMost() {
        Edge.holds("entries at most", ALWAYS_TENDED, """
            pass(200) = 0; status(7) = 192; pass(200) = 0; status(7) = 383
            pass(16) = 0; status(7) = 399; log(398, 0) = 415; log(399, 0) = -102; logged(0) = 399
            pass(1) = 0; status(7) = 400; log(399, 0) = 416; log(399, 1) = 1; log(399, 3) = 2; logged(0) = 400
            logged(1) = 400
            pass(1) = 0; status(7) = 400; log(399, 0) = 416; log(400, 0) = -102; logged(0) = 400; logged(1) = 400
            pass(200) = 0; status(7) = 400; log(399, 0) = 416; log(0, 0) = 0; logged(0) = 400; status(16) = 0
            """);
    }

    /**
     * Terms 2, "Entries are kept by HOURS, in each as they came; .. (then those that come are lost)": within an HOUR.
     */
    private static void entriesOfAnHourCutOff() {
        Edge.holds("entries of an HOUR cut off", ALWAYS_TENDED, """
            ship(5, 414) = 0; ship(3, 415) = 1; ship(6, 415) = 2; ship(7, 415) = 3; ship(3, 416) = 4
            pass(200) = 0; pass(200) = 0; status(7) = 383; pass(14) = 0; status(7) = 397
            pass(1) = 0; status(7) = 399; log(397, 1) = 1; log(398, 1) = 4; log(398, 2) = 0
            pass(1) = 0; status(7) = 400; log(399, 0) = 415; log(399, 1) = 1; log(399, 2) = -1; logged(4) = 1
            shipOf(1, 2) = 0; shipOf(2, 2) = 0; shipOf(3, 2) = 0; shipOf(3, 3) = 1
            pass(1) = 0; status(7) = 400; shipOf(4, 2) = 0; shipOf(4, 3) = 1; differences(-1) = 0
            """);
    }

    /** Terms 2, "TIRED: TENDED: his is 1 more, in STORM 2". */
    private static void tiredIfTended() {
        Edge.holds("TIRED if TENDED", Edge.sky("c1 f1 s1 s1 c1", 5), "keeper(0) = 0; keeper(0) = 1\n",
            Edge.watch(0, 0, 4), """
            pass(1) = 1; keeperOf(0, 1) = 1; pass(1) = 1; keeperOf(0, 1) = 2; pass(1) = 1; keeperOf(0, 1) = 4
            pass(1) = 1; keeperOf(0, 1) = 6; pass(1) = 1; keeperOf(0, 1) = 7; keeperOf(0, 4) = 5; keeperOf(1, 1) = 0
            """);
    }

    /** Terms 2, "All others' (ASLEEP or not on WATCH) is 2 less (0 at least)": of 0, 1, 2, 3, and of one ASLEEP. */
    private static void tiredLessTwo() {
        Edge.holds("TIRED less 2", "keeper(0) = 0; keeper(2) = 1; plan(0, 0) = -1; plan(3, 0) = -1; plan(4, 0) = -1\n",
            Edge.watch(0, 6, 8), Edge.watch(1, 12, 18), """
            pass(1) = 1; keeperOf(0, 1) = 1; keeperOf(1, 1) = 0; pass(1) = 1; keeperOf(0, 1) = 0
            pass(1) = 1; keeperOf(0, 1) = 0; pass(2) = 2; keeperOf(0, 1) = 2; pass(1) = 1; keeperOf(0, 1) = 0
            pass(3) = 0; keeperOf(0, 1) = 3; pass(1) = 0; keeperOf(0, 1) = 1; pass(1) = 0; keeperOf(0, 1) = 0
            pass(1) = 0; keeperOf(0, 1) = 0; pass(6) = 0; keeperOf(1, 1) = 6; keeperOf(1, 5) = 0
            pass(1) = 1; keeperOf(1, 1) = 4; keeperOf(1, 5) = 1; pass(1) = 1; keeperOf(1, 1) = 2; keeperOf(1, 5) = 1
            """);
    }

    /** Terms 2, "THE BOAT: if DUE isn't NONE". */
    private static void boatNotDue() {
        Edge.holds("THE BOAT, not DUE", """
            boat(2, 5) = 0; pass(12) = 6; status(11) = 0; status(1) = 0; boat(0, 12) = -1; boat(0, -1) = 12
            pass(2) = 0; status(11) = 0; status(1) = 0; boat(0, 14) = -1; pass(1) = 0; status(11) = 1; status(1) = 5
            boat(0, -1) = 182; pass(200) = 101; status(11) = 1; status(1) = 5; status(9) = -1
            """);
    }

    /** Terms 2, "and HOUR is DUE or later, no STORM": the HOUR ahead of DUE, DUE itself, and later behind a STORM. */
    private static void boatDueOrLater() {
        Edge.holds("THE BOAT, DUE or later", Edge.sky("c9 s2 f1 c30", 4), """
            boat(0, 8) = -1; boat(1, 1) = 168; boat(2, 1) = 0; pass(8) = 6; status(11) = 0; status(9) = 8
            pass(1) = 0; status(11) = 1; status(9) = 9; pass(1) = 0; status(11) = 1; status(9) = 9
            pass(1) = 0; status(11) = 1; status(9) = 9; pass(1) = 0; status(11) = 2; status(9) = 12
            pass(1) = 0; status(11) = 3; status(9) = 13; status(1) = 3
            """);
    }

    /** Terms 2, "not DARK: it COMES": DUE in the last HOUR of the dark, the first of the day, the last, DUSK. */
    private static void boatByDay() {
        Edge.holds("THE BOAT by day", """
            boat(0, 5) = -1; pass(6) = 6; status(11) = 0; pass(1) = 0; status(11) = 1; status(9) = 174
            boat(0, 17) = 174; comes() = 17; pass(10) = 0; status(11) = 1; pass(1) = 0; status(11) = 2
            boat(0, 18) = 185; comes() = 30; pass(12) = 12; status(11) = 2; pass(1) = 0; status(11) = 3
            boat(0, 54) = 198; comes() = 54; pass(23) = 12; status(11) = 3; pass(1) = 0; status(11) = 4; status(9) = 222
            """);
    }

    /** Terms 2, "OIL and COAL are more by what it brings (9999 at most)": to 9998, 9999, and beyond. */
    private static void boatBringsAtMost() {
        Edge.holds("THE BOAT brings", """
            pass(6) = 6; boat(0, 6) = -1; boat(1, 1) = 168; boat(2, 1000) = 0; boat(3, 1) = 0
            tell(3, 8998) = 0; tell(4, 9997) = 0; pass(1) = 0; status(1) = 9998; status(2) = 9998
            tell(3, 8999) = 9998; pass(1) = 0; status(1) = 9999; status(2) = 9999
            tell(3, 9000) = 9999; pass(1) = 0; status(1) = 9999; status(2) = 9999
            boat(2, 9999) = 1000; boat(3, 9999) = 1; pass(1) = 0; status(1) = 9999; status(2) = 9999
            tell(3, 0) = 9999; tell(4, 1) = 9999; pass(1) = 0; status(1) = 9999; status(2) = 9999; status(11) = 5
            tell(3, 7) = 9999; boat(2, 0) = 9999; boat(3, 0) = 9999; pass(1) = 0; status(1) = 7; status(2) = 9999
            """);
    }

    /** Terms 2, "all TIRED are 0": who TENDED, who is ASLEEP, who rests. */
    private static void boatRestsAll() {
        Edge.holds("THE BOAT rests all",
            "keeper(0) = 0; keeper(2) = 1; keeper(1) = 2; boat(0, 14) = -1; boat(1, 1) = 168\n",
            Edge.watch(0, 0, 7), Edge.watch(1, 8, 14), """
            pass(14) = 6; keeperOf(0, 1) = 0; keeperOf(1, 1) = 6; plan(13, 0) = 1; plan(12, 0) = 1; plan(14, 2) = 1
            pass(1) = 0; status(11) = 1; keeperOf(0, 1) = 0; keeperOf(1, 1) = 0; keeperOf(2, 1) = 0; keeperOf(2, 4) = 1
            boat(0, -1) = 15; plan(15, 1) = -1; pass(1) = 0; keeperOf(1, 1) = 1; keeperOf(1, 4) = 7; keeperOf(1, 5) = 0
            """);
        Edge.holds("THE BOAT rests who is ASLEEP", "keeper(2) = 0; boat(0, 14) = -1\n", Edge.watch(0, 8, 15), """
            pass(14) = 6; keeperOf(0, 1) = 6; pass(1) = 0; status(11) = 1; keeperOf(0, 5) = 1; keeperOf(0, 1) = 0
            pass(1) = 0; keeperOf(0, 1) = 1; keeperOf(0, 5) = 1
            """);
    }

    /** Terms 2, "all TIRED are 0": the first of six KEEPERS and the sixth; those beside them in THE PLAN were TIRED too. */
    private static void boatRestsSixKeepers() {
        Edge.holds("THE BOAT rests six KEEPERS", Edge.each(0, 5, k -> "keeper(0) = " + k), Edge.watch(5, 6, 9),
            Edge.watch(0, 10, 13), """
            pass(10) = 6; keeperOf(5, 1) = 4; pass(2) = 0; keeperOf(5, 1) = 0; keeperOf(0, 1) = 2; boat(0, 13) = -1
            pass(1) = 0; keeperOf(0, 1) = 3; pass(1) = 0; status(11) = 1; keeperOf(0, 1) = 0; boat(0, 33) = 181
            pass(19) = 12; keeperOf(5, 1) = 3; pass(1) = 0; status(11) = 2; keeperOf(5, 1) = 0; keeperOf(4, 1) = 0
            """);
    }

    /** Terms 2, "DUE is HOUR and EVERY": EVERY 1, 2 and 999, also if THE BOAT is late. */
    private static void boatIsDueAgain() {
        Edge.holds("THE BOAT is DUE again", """
            boat(0, 0) = -1; boat(1, 1) = 168; pass(6) = 6; status(9) = 0; pass(1) = 0; status(9) = 7; status(11) = 1
            boat(1, 2) = 1; pass(1) = 0; status(9) = 9; status(11) = 2; pass(1) = 0; status(11) = 2; pass(1) = 0
            status(9) = 11; status(11) = 3; boat(1, 999) = 2; pass(2) = 0; status(9) = 1010; status(11) = 4
            pass(200) = 98; status(11) = 4; status(9) = 1010
            """);
    }

    /** Terms 2, "Then HOUR is 1 more". */
    private static void hourIsOneMore() {
        Edge.holds("HOUR is 1 more",
            "status(0) = 0; pass(1) = 1; status(0) = 1; pass(22) = 10; status(0) = 23; pass(1) = 1\n",
            "status(0) = 24; pass(1) = 1; status(0) = 25; days(1) = 1; status(0) = 26");
    }

    /** Terms 2, "UNLIT: HOURS that were DARK, but not LIT, so far": LIT and not, at DAWN, at DUSK. */
    private static void unlit() {
        Edge.holds("UNLIT", """
            status(8) = 0; keeper(0) = 0; tell(3, 9) = 0; plan(3, 0) = -1; pass(3) = 3; status(8) = 3; pass(1) = 0
            status(8) = 3
            pass(1) = 0; status(8) = 3; pass(1) = 1; status(8) = 4; pass(1) = 0; status(8) = 4; pass(11) = 0
            status(8) = 4
            pass(1) = 1; status(8) = 5; would(5, 0) = 5; fails() = 19; status(8) = 5; days(1) = 1; status(8) = 6
            """);
    }
}
