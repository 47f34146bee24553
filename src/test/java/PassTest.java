/** Promises 18, 29, 38 and 39: HOURS that pass, and DAYS by draws. */
public final class PassTest {
    private static final long BAD = -102;

    public static void main(String[] args) {
        promise18Bounds();
        promise18Lamp();
        promise18LampOutOfOil();
        promise18Signal();
        promise18TiredInStorm();
        promise18Boat();
        promise18BoatWaits();
        promise29Unlit();
        promise38Days();
        promise38DaysFull();
        promise39Seed();
        Check.end();
    }

    private static void promise18Bounds() {
        KeptLight light = new KeptLight();
        Check.due("pass(-1)", light.pass(-1), BAD);
        Check.due("pass(201)", light.pass(201), BAD);
        Check.due("status(0)", light.status(0), 0);
        Check.due("pass(0)", light.pass(0), 0);
        Check.due("pass(24)", light.pass(24), 12);
        Check.due("pass(6)", light.pass(6), 6);
        Check.due("pass(12)", light.pass(12), 0);
        Check.due("pass(200)", light.pass(200), 104);
        Check.due("status(0)", light.status(0), 242);
        Check.due("status(8)", light.status(8), 122);
        Check.due("status(12)", light.status(12), 2);
    }

    private static void dueLamp(KeptLight light, String when, int unlit, int lit, int untended, int oil) {
        Check.due("pass(1) " + when, light.pass(1), unlit);
        Check.due("lit " + when, light.status(3), lit);
        Check.due("untended " + when, light.status(4), untended);
        Check.due("oil " + when, light.status(1), oil);
    }

    private static void promise18Lamp() {
        KeptLight light = new KeptLight();
        light.keeper(0);
        light.tell(2, 3);
        light.tell(3, 100);
        light.plan(1, 0);
        light.plan(4, 0);
        light.plan(5, 0);
        dueLamp(light, "hour 0, untended from the first", 1, 0, 0, 100);
        dueLamp(light, "hour 1, tended", 0, 1, 0, 97);
        dueLamp(light, "hour 2, an hour untended", 0, 1, 1, 94);
        dueLamp(light, "hour 3, no longer", 1, 0, 0, 94);
        dueLamp(light, "hour 4, tended again", 0, 1, 0, 91);
        dueLamp(light, "hour 5, tended", 0, 1, 0, 88);
        dueLamp(light, "hour 6, by day", 0, 0, 0, 88);
        light.pass(11);
        dueLamp(light, "hour 18, dusk, untended", 1, 0, 0, 88);
    }

    private static void promise18LampOutOfOil() {
        KeptLight light = new KeptLight();
        light.keeper(0);
        light.tell(2, 2);
        light.tell(3, 5);
        Check.watch(light, 0, 0, 1);
        dueLamp(light, "hour 0", 0, 1, 0, 3);
        dueLamp(light, "hour 1", 0, 1, 0, 1);
        dueLamp(light, "hour 2, too little for the wick", 1, 0, 0, 1);
        light.plan(3, 0);
        dueLamp(light, "hour 3, tended, too little", 1, 0, 0, 1);
        light.tell(3, 2);
        dueLamp(light, "hour 4, untended and not lit ahead", 1, 0, 0, 2);
        light.plan(5, 0);
        dueLamp(light, "hour 5, just enough", 0, 1, 0, 0);
    }

    private static void promise18Signal() {
        KeptLight light = new KeptLight();
        light.keeper(0);
        light.tell(4, 2);
        Check.sky(light, "f1 c1 s1 f9");
        Check.watch(light, 0, 0, 3);
        light.plan(5, 0);
        light.plan(6, 0);
        long[] coal = {1, 1, 1, 0, 0};
        for (int hour = 0; hour < coal.length; hour++) {
            light.pass(1);
            Check.due("coal behind hour " + hour, light.status(2), coal[hour]);
        }
        light.tell(4, 1);
        light.ship(7, 5);
        light.ship(7, 6);
        light.pass(2);
        Check.due("met at 5", light.shipOf(0, 3), 2);
        Check.due("met at 6, no coal", light.shipOf(1, 3), 0);
    }

    private static void promise18TiredInStorm() {
        KeptLight light = new KeptLight();
        light.keeper(2);
        Check.sky(light, "s3 c1 s9");
        Check.watch(light, 0, 0, 23);
        // Hours: storm 2, 4, 6; asleep in the clear 4; storm 6; asleep in storm 4; storm 6.
        long[] tired = {2, 4, 6, 4, 6, 4, 6};
        for (int hour = 0; hour < tired.length; hour++) {
            light.pass(1);
            Check.due("tired behind hour " + hour, light.keeperOf(0, 1), tired[hour]);
        }
        Check.due("tended", light.keeperOf(0, 4), 5);
        Check.due("asleep", light.keeperOf(0, 5), 2);
        light.plan(7, -1);
        light.tell(0, 0);
        light.pass(1);
        Check.due("tired, not on watch", light.keeperOf(0, 1), 4);
        Check.due("asleep, not on watch", light.keeperOf(0, 5), 2);
    }

    private static void promise18Boat() {
        KeptLight light = new KeptLight();
        light.keeper(0);
        light.keeper(2);
        Check.watch(light, 0, 0, 23);
        light.tell(3, 20);
        light.tell(4, 9000);
        light.boat(0, 8);
        light.boat(1, 30);
        light.boat(2, 7);
        light.boat(3, 1000);
        light.pass(8);
        Check.due("came ahead of 8", light.status(11), 0);
        Check.due("oil ahead of 8", light.status(1), 14);
        Check.due("tired ahead of 8", light.keeperOf(0, 1), 8);
        light.pass(1);
        Check.due("came at 8", light.status(11), 1);
        Check.due("oil at 8", light.status(1), 21);
        Check.due("coal at 8, no more than fits", light.status(2), 9999);
        Check.due("tired at 8", light.keeperOf(0, 1), 0);
        Check.due("due at 8", light.status(9), 38);
        light.boat(0, -1);
        light.pass(60);
        Check.due("came no more", light.status(11), 1);
    }

    /** Due in the dark and then in storm, it comes in the first fair hour by day; the next is counted from there. */
    private static void promise18BoatWaits() {
        KeptLight light = new KeptLight();
        Check.sky(light, "c5 s4 f9");
        light.boat(0, 3);
        light.boat(1, 1);
        light.boat(2, 9999);
        Check.due("comes()", light.comes(), 9);
        light.pass(9);
        Check.due("came behind 8", light.status(11), 0);
        light.pass(1);
        Check.due("came in fog at 9", light.status(11), 1);
        Check.due("due", light.status(9), 10);
        light.pass(8);
        Check.due("came each hour by day", light.status(11), 9);
        light.pass(12);
        Check.due("came at no hour in the dark", light.status(11), 9);
        Check.due("due", light.status(9), 18);
    }

    private static void promise29Unlit() {
        KeptLight light = new KeptLight();
        Check.due("unlit() of none", light.unlit(), 0);
        light.keeper(0);
        light.tell(3, 9999);
        Check.watch(light, 0, 0, 2);
        light.plan(19, 0);
        light.pass(18);
        Check.due("unlit() at 18", light.unlit(), 1 << 4 | 1 << 5);
        light.pass(6);
        Check.due("unlit() at 24", light.unlit(), 1 << 4 | 1 << 5 | 1 << 18 | 7 << 21);
        light.plan(1, -1);
        light.plan(2, -1);
        Check.watch(light, 0, 3, 5);
        light.pass(24);
        Check.due("unlit() at 48", light.unlit(), 1 << 2 | 1 << 4 | 1 << 5 | 1 << 18 | 7 << 21);
        Check.due("status(8)", light.status(8), 2 + 4 + 1 + 4);
    }

    private static void promise38Days() {
        KeptLight light = new KeptLight();
        Check.due("days(0)", light.days(0), BAD);
        Check.due("days(-1)", light.days(-1), BAD);
        Check.due("days(61)", light.days(61), BAD);
        Check.due("status(18)", light.status(18), 1);
        Check.due("days(12)", light.days(12), 6);
        int[][] ships = {{6, 4}, {3, 4}, {7, 28}, {6, 23}};
        Check.due("status(6)", light.status(6), ships.length);
        for (int ship = 0; ship < ships.length; ship++) {
            Check.due("kind of " + ship, light.shipOf(ship, 0), ships[ship][0]);
            Check.due("hour of " + ship, light.shipOf(ship, 1), ships[ship][1]);
        }
        Check.due("status(18)", light.status(18), -471937619);
        Check.due("status(0)", light.status(0), 12);
        Check.due("shipOf(0, 2)", light.shipOf(0, 2), 1);
        Check.due("days(60)", light.days(60), 30);
        Check.due("status(0)", light.status(0), 72);
        Check.due("days(1)", light.days(1), 1);
        Check.due("status(0)", light.status(0), 73);
        Check.due("status(12)", light.status(12), 3);
    }

    /** With 200 SHIPS a DAY takes one DRAW alone. */
    private static void promise38DaysFull() {
        KeptLight light = new KeptLight();
        for (int ship = 0; ship < 200; ship++) {
            light.ship(3, 900);
        }
        light.seed(7);
        int seed = 7;
        for (int day = 0; day < 60; day++) {
            seed = seed * 1103515245 + 12345;
        }
        Check.due("days(60)", light.days(60), 30);
        Check.due("status(18)", light.status(18), seed);
        Check.due("status(6)", light.status(6), 200);
        Check.due("refusals", Check.refusals(light), 0);
    }

    private static void promise39Seed() {
        KeptLight light = new KeptLight();
        Check.due("seed(-5)", light.seed(-5), 1);
        light.days(12);
        Check.due("status(6)", light.status(6), 3);
        Check.due("shipOf(2, 0)", light.shipOf(2, 0), 7);
        Check.due("shipOf(2, 1)", light.shipOf(2, 1), 27);
        Check.due("seed(7)", light.seed(7), 1226340833);
        Check.due("status(18)", light.status(18), 7);
        Check.due("seed(MIN)", light.seed(Integer.MIN_VALUE), 7);
    }
}
