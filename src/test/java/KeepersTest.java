/** Promises 12 to 16 and 21: KEEPERS, THE PLAN, what is told, THE BOAT. */
public final class KeepersTest {
    private static final long BAD = -102;
    private static final long OTHER = -103;
    private static final long NOTHING = -104;
    private static final long FULL = -106;

    public static void main(String[] args) {
        promise12Keeper();
        promise13Plan();
        promise14Plans();
        promise14Refused();
        promise15Tell();
        promise16Boat();
        promise21KeeperOf();
        promise21Refused();
        Check.end();
    }

    private static void promise12Keeper() {
        KeptLight light = new KeptLight();
        Check.due("keeper(-1)", light.keeper(-1), BAD);
        Check.due("keeper(3)", light.keeper(3), BAD);
        for (int k = 0; k < 6; k++) {
            Check.due("keeper " + k, light.keeper(k % 3), k);
        }
        Check.due("keeper(3), full", light.keeper(3), BAD);
        Check.due("keeper(0), full", light.keeper(0), FULL);
        Check.due("status(5)", light.status(5), 6);
        Check.due("status(12)", light.status(12), 3);
        Check.due("status(16)", light.status(16), 1);
        Check.due("keeperOf(4, 0)", light.keeperOf(4, 0), 1);
    }

    private static void promise13Plan() {
        KeptLight light = new KeptLight();
        Check.due("plan(0, 0), no keeper", light.plan(0, 0), BAD);
        light.keeper(0);
        light.keeper(1);
        Check.due("plan(0, 1)", light.plan(0, 1), -1);
        Check.due("plan(0, 0)", light.plan(0, 0), 1);
        Check.due("plan(0, NONE)", light.plan(0, -1), 0);
        Check.due("plan(23, 1)", light.plan(23, 1), -1);
        Check.due("plan(23, 2)", light.plan(23, 2), BAD);
        Check.due("plan(23, -2)", light.plan(23, -2), BAD);
        Check.due("plan(24, 0)", light.plan(24, 0), BAD);
        Check.due("plan(-1, 0)", light.plan(-1, 0), BAD);
        Check.due("plan(23, NONE)", light.plan(23, -1), 1);
        Check.due("status(12)", light.status(12), 5);
    }

    private static void promise14Plans() {
        KeptLight light = new KeptLight();
        light.keeper(0);
        light.keeper(1);
        light.row(0, 3, 40);
        for (int hour = 0; hour < 40; hour++) {
            light.set(0, hour, hour < 24 ? hour % 3 - 1 : 77);
        }
        light.plan(3, 1);
        Check.due("plans(0)", light.plans(0), 1);
        for (int hour = 0; hour < 24; hour++) {
            Check.due("plan(" + hour + ")", light.plan(hour, -1), hour % 3 - 1);
        }
        light.row(1, 4, 24);
        light.set(1, 5, 1);
        Check.due("plans(1) of booleans", light.plans(1), 1);
        Check.due("plan(4)", light.plan(4, -1), 0);
        Check.due("plan(5)", light.plan(5, -1), 1);
    }

    private static void promise14Refused() {
        KeptLight light = new KeptLight();
        light.keeper(0);
        light.plan(3, 0);
        light.row(0, 3, 23);
        light.row(1, 3, 24);
        light.ship(3, 9);
        light.show(2, 0);
        Check.due("plans(-1)", light.plans(-1), BAD);
        Check.due("plans(8)", light.plans(8), BAD);
        Check.due("plans(2) of a ship", light.plans(2), OTHER);
        Check.due("plans(3) of nothing", light.plans(3), NOTHING);
        Check.due("plans(0) of 23", light.plans(0), BAD);
        light.set(1, 23, 1);
        Check.due("plans(1), no keeper 1", light.plans(1), BAD);
        light.set(1, 23, -2);
        Check.due("plans(1), -2", light.plans(1), BAD);
        light.set(1, 23, 1L << 32);
        Check.due("plans(1), a long whose low half is 0", light.plans(1), BAD);
        Check.due("plan(0) is unchanged", light.plan(0, -1), -1);
        Check.due("plan(3) is unchanged", light.plan(3, -1), 0);
        Check.due("status(12)", light.status(12), 6);
    }

    private static void promise15Tell() {
        int[] first = {6, 18, 1, 0, 0};
        int[] least = {0, 13, 1, 0, 0};
        int[] most = {12, 24, 4, 9999, 9999};
        KeptLight light = new KeptLight();
        for (int what = 0; what < 5; what++) {
            Check.due("tell(" + what + ", least - 1)", light.tell(what, least[what] - 1), BAD);
            Check.due("tell(" + what + ", most + 1)", light.tell(what, most[what] + 1), BAD);
            Check.due("tell(" + what + ", least)", light.tell(what, least[what]), first[what]);
            Check.due("tell(" + what + ", most)", light.tell(what, most[what]), least[what]);
            Check.due("tell(" + what + ", most) again", light.tell(what, most[what]), most[what]);
        }
        Check.due("tell(-1, 1)", light.tell(-1, 1), BAD);
        Check.due("tell(5, 1)", light.tell(5, 1), BAD);
        Check.due("status(1)", light.status(1), 9999);
        Check.due("status(2)", light.status(2), 9999);
        Check.due("status(12)", light.status(12), 12);
    }

    private static void promise16Boat() {
        KeptLight light = new KeptLight();
        int[] first = {-1, 168, 0, 0};
        int[] least = {0, 1, 0, 0};
        int[] most = {9999, 999, 9999, 9999};
        for (int what = 0; what < 4; what++) {
            Check.due("boat(" + what + ", most + 1)", light.boat(what, most[what] + 1), BAD);
            Check.due("boat(" + what + ", least - 2)", light.boat(what, least[what] - 2), BAD);
            Check.due("boat(" + what + ", least)", light.boat(what, least[what]), first[what]);
            Check.due("boat(" + what + ", most)", light.boat(what, most[what]), least[what]);
            Check.due("boat(" + what + ", most) again", light.boat(what, most[what]), most[what]);
        }
        Check.due("boat(1, 0)", light.boat(1, 0), BAD);
        Check.due("boat(2, NONE)", light.boat(2, -1), BAD);
        Check.due("boat(3, NONE)", light.boat(3, -1), BAD);
        Check.due("boat(-1, 1)", light.boat(-1, 1), BAD);
        Check.due("boat(4, 1)", light.boat(4, 1), BAD);
        Check.due("boat(0, NONE)", light.boat(0, -1), 9999);
        light.pass(5);
        Check.due("boat(0, 4), passed", light.boat(0, 4), BAD);
        Check.due("boat(0, 5)", light.boat(0, 5), -1);
        Check.due("boat(0, 10005)", light.boat(0, 10005), BAD);
        Check.due("boat(0, 10004)", light.boat(0, 10004), 5);
        Check.due("status(9)", light.status(9), 10004);
        Check.due("status(12)", light.status(12), 15);
    }

    private static void promise21KeeperOf() {
        KeptLight light = new KeptLight();
        int[] lasts = {12, 9, 6};
        for (int rank = 0; rank < 3; rank++) {
            light.keeper(rank);
            Check.due("keeperOf(" + rank + ", 0)", light.keeperOf(rank, 0), rank);
            Check.due("keeperOf(" + rank + ", 1)", light.keeperOf(rank, 1), 0);
            Check.due("keeperOf(" + rank + ", 2)", light.keeperOf(rank, 2), lasts[rank]);
            Check.due("keeperOf(" + rank + ", 3)", light.keeperOf(rank, 3), 0);
        }
        Check.watch(light, 0, 0, 13);
        Check.watch(light, 1, 14, 23);
        // HEAD works 12 hours, sleeps one, works one; then HAND works 9 and sleeps one.
        light.pass(12);
        Check.due("tired at 12", light.keeperOf(0, 1), 12);
        light.pass(1);
        Check.due("tired at 13, asleep", light.keeperOf(0, 1), 10);
        Check.due("asleep at 13", light.keeperOf(0, 5), 1);
        light.pass(1);
        Check.due("tired at 14", light.keeperOf(0, 1), 11);
        light.pass(10);
        Check.due("tired at 24", light.keeperOf(0, 1), 0);
        Check.due("tended by HEAD", light.keeperOf(0, 4), 13);
        Check.due("asleep of HEAD", light.keeperOf(0, 5), 1);
        Check.due("hours of HEAD", light.keeperOf(0, 3), 14);
        Check.due("tended by HAND", light.keeperOf(1, 4), 9);
        Check.due("asleep of HAND", light.keeperOf(1, 5), 1);
        Check.due("tired HAND", light.keeperOf(1, 1), 7);
        Check.due("tended by BOY", light.keeperOf(2, 4), 0);
        Check.due("hours of BOY", light.keeperOf(2, 3), 0);
        light.plan(0, 2);
        light.plan(23, 2);
        Check.due("hours of BOY, the first and the last", light.keeperOf(2, 3), 2);
    }

    private static void promise21Refused() {
        KeptLight light = new KeptLight();
        Check.due("keeperOf(0, 0), none", light.keeperOf(0, 0), BAD);
        light.keeper(2);
        Check.due("keeperOf(0, 0)", light.keeperOf(0, 0), 2);
        Check.due("keeperOf(1, 0)", light.keeperOf(1, 0), BAD);
        Check.due("keeperOf(-1, 0)", light.keeperOf(-1, 0), BAD);
        Check.due("keeperOf(0, -1)", light.keeperOf(0, -1), BAD);
        Check.due("keeperOf(0, 6)", light.keeperOf(0, 6), BAD);
        Check.due("status(12)", light.status(12), 5);
    }
}
