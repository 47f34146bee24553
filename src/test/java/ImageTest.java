/** Promises 40 to 42: what is kept and is so again, and the status. */
public final class ImageTest {
    private static final long BAD = -102;
    private static final long STUCK = -105;

    public static void main(String[] args) {
        promise40KeepsAll();
        promise41Twice();
        promise41NotTapeShelvesRefusals();
        promise41Stuck();
        promise42Status();
        promise42Refusals();
        Check.end();
    }

    private static KeptLight busy() {
        KeptLight light = new KeptLight();
        light.keeper(2);
        light.keeper(1);
        Check.watch(light, 0, 0, 23);
        Check.sky(light, "c5 f9 s2");
        light.tell(0, 11);
        light.tell(1, 15);
        light.tell(2, 2);
        light.tell(3, 9);
        light.tell(4, 20);
        light.boat(0, 3);
        light.boat(1, 50);
        light.boat(2, 4);
        light.boat(3, 6);
        light.ship(5, 6);
        light.ship(3, 6);
        light.ship(7, 30);
        light.pass(21);
        light.days(4);
        return light;
    }

    /** All that can be asked without a change of what is kept (tell() and the like put back what was). */
    private static long[] answers(KeptLight light) {
        java.util.ArrayList<Long> all = new java.util.ArrayList<>();
        for (int what = 0; what <= 11; what++) {
            all.add((long) light.status(what));
        }
        all.add((long) light.status(18));
        all.add((long) light.unlit());
        for (int i = 0; i < 30; i++) {
            for (int what = 0; what < 4; what++) {
                all.add((long) light.log(i, what));
                all.add((long) light.shipOf(i, what));
                all.add((long) light.difference(i, what));
            }
            all.add((long) light.weather(i));
            all.add((long) light.dark(i));
            all.add((long) light.shipAt(i, 0));
            all.add((long) light.shipAt(i, 1));
        }
        for (int k = 0; k < 3; k++) {
            for (int what = 0; what < 6; what++) {
                all.add((long) light.keeperOf(k, what));
            }
        }
        for (int hour = 0; hour < 24; hour++) {
            int keeper = light.plan(hour, -1);
            light.plan(hour, keeper);
            all.add((long) keeper);
        }
        for (int what = 0; what < 5; what++) {
            int v = light.tell(what, what == 1 ? 13 : 1);
            light.tell(what, v);
            all.add((long) v);
        }
        for (int what = 1; what < 4; what++) {
            int v = light.boat(what, 1);
            light.boat(what, v);
            all.add((long) v);
        }
        for (int n = 0; n < 60; n += 7) {
            for (int what = 0; what < 6; what++) {
                all.add((long) light.would(n, what));
            }
            all.add((long) light.oil(n));
        }
        long[] answers = new long[all.size()];
        for (int i = 0; i < answers.length; i++) {
            answers[i] = all.get(i);
        }
        return answers;
    }

    private static void dueSame(String when, long[] got, long[] want) {
        for (int i = 0; i < want.length; i++) {
            Check.due("answer " + i + " " + when, got[i], want[i]);
        }
    }

    private static void changeAll(KeptLight light) {
        light.keeper(0);
        Check.watch(light, 2, 3, 23);
        Check.sky(light, "s3 f3");
        light.tell(0, 2);
        light.tell(1, 22);
        light.tell(2, 4);
        light.tell(3, 900);
        light.tell(4, 7);
        light.boat(0, light.status(0) + 1);
        light.boat(1, 9);
        light.boat(2, 77);
        light.boat(3, 78);
        light.ship(6, light.status(0));
        light.ship(7, light.status(0));
        light.days(40);
        light.pass(30);
        light.seed(99);
    }

    private static void promise40KeepsAll() {
        KeptLight light = busy();
        Check.due("image()", light.image(), 1);
        long[] before = answers(light);
        changeAll(light);
        Check.due("back()", light.back(), 1);
        dueSame("behind back()", answers(light), before);
        KeptLight twin = busy();
        light.days(20);
        twin.days(20);
        dueSame("behind back() and days(20)", answers(light), answers(twin));
    }

    private static void promise41Twice() {
        KeptLight light = busy();
        light.image();
        long[] before = answers(light);
        changeAll(light);
        light.back();
        changeAll(light);
        Check.due("back() again", light.back(), 1);
        dueSame("behind back() again", answers(light), before);
        light.pass(5);
        long[] later = answers(light);
        Check.due("image() again", light.image(), 1);
        changeAll(light);
        light.back();
        dueSame("behind a later image", answers(light), later);
    }

    private static void promise41NotTapeShelvesRefusals() {
        KeptLight light = new KeptLight();
        light.ship(3, 50);
        light.feed(99);
        Check.ints(light, 0, 4, 5);
        light.show(1, 0);
        light.image();
        light.ship(4, 50);
        light.ship(5, 60);
        light.feed(53);
        light.feed(-1);
        light.set(0, 0, 6);
        light.row(2, 1, 3);
        light.show(3, 0);
        light.show(4, 1);
        light.show(5, 2);
        light.show(7, 2);
        light.show(1, -1);
        Check.due("status(19)", light.status(19), 6);
        Check.due("back()", light.back(), 1);
        Check.due("status(17)", light.status(17), 2);
        Check.due("status(12)", light.status(12), 1);
        Check.due("element(0, 0)", light.element(0, 0), 6);
        int[] holds = {2, -1, 1, 10, -1, -1};
        for (int s = 0; s < holds.length; s++) {
            Check.due("holds(" + s + ")", light.holds(s), holds[s]);
        }
        Check.due("status(19)", light.status(19), 3);
        Check.due("status(6)", light.status(6), 1);
        light.ship(7, 70);
        Check.due("holds(4) stays nothing", light.holds(4), -1);
        Check.due("says(3, 0)", light.says(3, 0), 50);
        light.image();
        light.show(4, 1);
        light.ship(6, 90);
        light.show(0, 2);
        light.back();
        Check.due("holds(0), a ship that is no more", light.holds(0), -1);
        Check.due("holds(7), nothing for long", light.holds(7), -1);
        light.ship(6, 80);
        Check.due("says(4, 0), kept", light.says(4, 0), 70);
    }

    private static void promise41Stuck() {
        KeptLight light = new KeptLight();
        light.pass(3);
        Check.due("back(), nothing kept", light.back(), STUCK);
        Check.due("status(0)", light.status(0), 3);
        Check.due("status(15)", light.status(15), 1);
        light.image();
        Check.due("back()", light.back(), 1);
        Check.due("status(15) stays", light.status(15), 1);
    }

    private static void promise42Status() {
        KeptLight light = new KeptLight();
        light.keeper(0);
        light.keeper(1);
        light.plan(1, 0);
        light.plan(19, 0);
        light.tell(3, 30);
        light.tell(4, 8);
        Check.sky(light, "c7 f2");
        light.boat(0, 2);
        light.boat(1, 3);
        light.ship(3, 1);
        light.ship(4, 19);
        light.seed(44);
        light.row(2, 2, 2);
        light.show(3, 0);
        light.feed(1);
        light.feed(2);
        light.feed(3);
        light.pass(21);
        // Lit at 1 and 2, 19 and 20 (untended at 2 and 20); the boat comes at 6, 9, 12, 15.
        long[] want = {21, 26, 8, 1, 1, 2, 2, 4, 5, 18, 2, 4, 0, 0, 0, 0, 0, 3, 44, 2};
        for (int what = 0; what < want.length; what++) {
            Check.due("status(" + what + ")", light.status(what), want[what]);
        }
        for (int what : new int[] {-1, 20, Integer.MAX_VALUE, Integer.MIN_VALUE}) {
            Check.due("status(" + what + ")", light.status(what), -1);
        }
        Check.due("refusals", Check.refusals(light), 0);
    }

    private static void promise42Refusals() {
        KeptLight light = new KeptLight();
        light.ship(3, 1);
        light.show(0, 0);
        light.set(0, 0, 0);
        light.set(0, 0, 0);
        light.plans(1);
        light.plans(1);
        light.plans(1);
        light.back();
        light.back();
        light.back();
        light.better(0, 0);
        for (int k = 0; k < 11; k++) {
            light.keeper(0);
        }
        light.weather(-1);
        long[] want = {1, 2, 3, 4, 5};
        for (int what = 12; what <= 16; what++) {
            Check.due("status(" + what + ")", light.status(what), want[what - 12]);
        }
        Check.due("log(0, 0)", light.log(0, 0), BAD);
        Check.due("status(12)", light.status(12), 2);
    }
}
