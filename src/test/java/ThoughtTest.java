/** Promises 30 to 36: what is asked in thought, and that nothing is changed by it. */
public final class ThoughtTest {
    private static final long BAD = -102;
    private static final long OTHER = -103;
    private static final long NOTHING = -104;
    private static final long STUCK = -105;

    public static void main(String[] args) {
        promise30Would();
        promise30WouldAsItPasses();
        promise30Refused();
        promise31Fails();
        promise31TwoHundredHours();
        promise32Comes();
        promise33Oil();
        promise33OilWithBoat();
        promise34Better();
        promise34Refused();
        promise35Other();
        promise35Refused();
        promise36Idle();
        thoughtsChangeNothing();
        Check.end();
    }

    private static void dueWould(KeptLight light, int n, long... want) {
        for (int what = 0; what < want.length; what++) {
            Check.due("would(" + n + ", " + what + ")", light.would(n, what), want[what]);
        }
    }

    /** A BOY tends hours 0 to 5, sleeps at 6 (the lamp stays lit), tends 7 in storm, sleeps at 8 and 9. */
    private static KeptLight stormy() {
        KeptLight light = new KeptLight();
        light.keeper(2);
        Check.watch(light, 0, 0, 9);
        light.tell(0, 12);
        light.tell(2, 2);
        light.tell(3, 50);
        light.tell(4, 3);
        Check.sky(light, "c1 f2 c4 s9");
        int[][] ships = {{3, 0}, {7, 2}, {3, 7}, {7, 8}, {7, 10}, {3, 10}, {4, 10}, {5, 11}};
        for (int[] ship : ships) {
            light.ship(ship[0], ship[1]);
        }
        return light;
    }

    private static void promise30Would() {
        KeptLight light = stormy();
        // Tired behind hours 0 to 10: 1 2 3 4 5 6, 4 (asleep), 6 (storm), 4 (asleep), 6 (storm), 4.
        dueWould(light, 0, 0, 50, 3, 0, 0, 0);
        dueWould(light, 7, 0, 36, 1, 0, 0, 1);
        dueWould(light, 9, 0, 32, 1, 1, 0, 2);
        dueWould(light, 10, 0, 30, 1, 1, 0, 2);
        dueWould(light, 11, 0, 28, 1, 3, 0, 2);
        dueWould(light, 12, 1, 28, 1, 3, 1, 2);
    }

    private static void promise30WouldAsItPasses() {
        KeptLight light = stormy();
        light.boat(0, 5);
        light.boat(2, 100);
        light.boat(3, 20);
        int unlit = light.would(40, 0);
        int oil = light.would(40, 1);
        int coal = light.would(40, 2);
        int misses = light.would(40, 3);
        int wrecks = light.would(40, 4);
        int asleep = light.would(40, 5);
        light.pass(3);
        int safe = light.many(0, 0);
        Check.due("would(37, 3) counts none that passed", light.would(37, 3), misses);
        Check.due("safe ahead", safe, 2);
        Check.due("pass(37)", light.pass(37), unlit);
        Check.due("status(1)", light.status(1), oil);
        Check.due("status(2)", light.status(2), coal);
        Check.due("many(0, 1)", light.many(0, 1), misses);
        Check.due("many(0, 2)", light.many(0, 2), wrecks);
        Check.due("keeperOf(0, 5)", light.keeperOf(0, 5), asleep);
        Check.due("came", light.status(11), 1);
    }

    /** A lamp that has burnt an hour untended is out in the next, in thought too. */
    private static void promise30Untended() {
        KeptLight light = new KeptLight();
        light.keeper(0);
        light.plan(0, 0);
        light.tell(3, 9);
        light.pass(1);
        dueWould(light, 1, 0, 7);
        light.pass(1);
        dueWould(light, 1, 1, 7);
        Check.due("fails()", light.fails(), 2);
        Check.due("oil(1)", light.oil(1), 0);
    }

    private static void promise30Refused() {
        promise30Untended();
        KeptLight light = new KeptLight();
        Check.due("would(-1, 0)", light.would(-1, 0), BAD);
        Check.due("would(201, 0)", light.would(201, 0), BAD);
        Check.due("would(1, -1)", light.would(1, -1), BAD);
        Check.due("would(1, 6)", light.would(1, 6), BAD);
        Check.due("would(200, 0)", light.would(200, 0), 102);
        Check.due("status(12)", light.status(12), 4);
    }

    private static void promise31Fails() {
        KeptLight light = new KeptLight();
        Check.due("fails() at once", light.fails(), 0);
        light.pass(6);
        Check.due("fails() from the day", light.fails(), 18);
        light.keeper(0);
        light.tell(3, 3);
        light.plan(18, 0);
        light.plan(20, 0);
        Check.due("fails() out of oil", light.fails(), 21);
        light.tell(3, 9);
        Check.due("fails() untended", light.fails(), 22);
        light.tell(0, 0);
        light.tell(1, 24);
        Check.due("fails() without dark", light.fails(), -1);
        Check.due("refusals", Check.refusals(light), 0);
    }

    /** Eight dark hours a day are tended by HEADS in turn: the hour 199 is the last that is thought of. */
    private static void promise31TwoHundredHours() {
        KeptLight light = new KeptLight();
        light.keeper(0);
        light.tell(0, 8);
        light.tell(1, 24);
        Check.watch(light, 0, 0, 7);
        light.tell(3, 71);
        Check.due("fails() in the last", light.fails(), 199);
        light.tell(3, 72);
        Check.due("fails() beyond", light.fails(), -1);
        light.tell(0, 9);
        Check.watch(light, 0, 0, 8);
        light.tell(3, 79);
        Check.due("fails() in the last of longer nights", light.fails(), 199);
        light.tell(3, 80);
        Check.due("fails() an hour beyond", light.fails(), -1);
        light.pass(1);
        Check.due("fails() an hour later", light.fails(), 200);
        Check.due("refusals", Check.refusals(light), 0);
    }

    private static void promise32Comes() {
        KeptLight light = new KeptLight();
        Check.due("comes(), not due", light.comes(), -1);
        light.boat(0, 3);
        Check.due("comes() in the morning", light.comes(), 6);
        light.boat(0, 18);
        Check.due("comes() the day after", light.comes(), 30);
        light.boat(0, 399);
        Check.due("comes() in the last", light.comes(), 399);
        light.boat(0, 400);
        Check.due("comes() beyond", light.comes(), -1);
        light.pass(1);
        Check.due("comes() an hour later", light.comes(), 400);
        light.boat(0, 7);
        Check.sky(light, "s9 f1 s14");
        Check.due("comes() between storms", light.comes(), 9);
        Check.sky(light, "s1");
        Check.due("comes() never", light.comes(), -1);
        Check.due("refusals", Check.refusals(light), 0);
        Check.due("status(9)", light.status(9), 7);
        Check.due("status(11)", light.status(11), 0);
    }

    private static void promise33Oil() {
        KeptLight light = new KeptLight();
        Check.due("oil(24), no keeper", light.oil(24), 0);
        light.keeper(0);
        light.tell(2, 3);
        light.plan(0, 0);
        light.plan(4, 0);
        Check.due("oil(0)", light.oil(0), 0);
        Check.due("oil(1)", light.oil(1), 3);
        Check.due("oil(2)", light.oil(2), 6);
        Check.due("oil(3)", light.oil(3), 6);
        Check.due("oil(200)", light.oil(200), 3 * 4 * 8 + 3 * 4);
        Check.due("oil(-1)", light.oil(-1), BAD);
        Check.due("oil(201)", light.oil(201), BAD);
        Check.due("status(1)", light.status(1), 0);
        Check.due("status(12)", light.status(12), 2);
    }

    /** The boat of hour 6 brings what the evenings need: only the first morning's oil must be there. */
    private static void promise33OilWithBoat() {
        KeptLight light = new KeptLight();
        light.keeper(0);
        Check.watch(light, 0, 0, 5);
        light.plan(20, 0);
        light.boat(0, 0);
        light.boat(2, 9999);
        Check.due("oil(24)", light.oil(24), 6);
        light.boat(2, 1);
        Check.due("oil(24), the boat brings too little", light.oil(24), 7);
        light.tell(0, 0);
        Check.due("oil(24), by day", light.oil(24), 1);
    }

    private static void promise34Better() {
        KeptLight light = new KeptLight();
        light.keeper(0);
        light.keeper(1);
        light.tell(3, 500);
        Check.due("better(0, 24) than none: the least", light.better(0, 24), 0);
        light.plan(0, 1);
        Check.due("better(0, 24), as good", light.better(0, 24), -1);
        Check.due("better(1, 24) than none, lit an hour untended", light.better(1, 24), 0);
        Check.due("better(12, 24) by day", light.better(12, 24), -1);
        Check.due("better(0, 0)", light.better(0, 0), -1);
        light.plan(0, 0);
        Check.watch(light, 0, 6, 23);
        // Keeper 0 has tended 12 hours when the evening begins, and would sleep: keeper 1 is better.
        light.pass(18);
        Check.due("tired", light.keeperOf(0, 1), 12);
        Check.due("better(18, 1)", light.better(18, 1), 1);
        light.plan(18, 1);
        Check.due("better(18, 1), the other is there", light.better(18, 1), -1);
        Check.due("better(19, 2), a lamp still lit", light.better(19, 2), -1);
    }

    /** The one who is there sleeps, and the least keeper too: another is better. */
    private static void promise34AnotherThanTheLeast() {
        KeptLight light = new KeptLight();
        light.keeper(2);
        light.keeper(0);
        light.keeper(0);
        light.tell(3, 500);
        light.tell(0, 0);
        light.tell(1, 13);
        Check.watch(light, 0, 7, 13);
        light.pass(13);
        Check.due("the boy is tired", light.keeperOf(0, 1), 6);
        Check.due("better(13, 1)", light.better(13, 1), 1);
        light.plan(13, 2);
        Check.due("better(13, 1), as good", light.better(13, 1), -1);
        light.plan(13, -1);
        Check.due("better(13, 1) than nobody", light.better(13, 1), 1);
        light.tell(3, 0);
        Check.due("better(13, 1) without oil", light.better(13, 1), -1);
    }

    private static void promise34Refused() {
        promise34AnotherThanTheLeast();
        KeptLight light = new KeptLight();
        Check.due("better(-1, 5)", light.better(-1, 5), BAD);
        Check.due("better(24, 5)", light.better(24, 5), BAD);
        Check.due("better(0, -1)", light.better(0, -1), BAD);
        Check.due("better(0, 201)", light.better(0, 201), BAD);
        Check.due("better(0, 200)", light.better(0, 200), STUCK);
        Check.due("status(12)", light.status(12), 4);
        Check.due("status(15)", light.status(15), 1);
    }

    private static void promise35Other() {
        KeptLight light = new KeptLight();
        light.keeper(0);
        light.keeper(0);
        light.tell(3, 500);
        light.row(0, 0, 24);
        light.row(1, 2, 30);
        for (int hour = 0; hour < 30; hour++) {
            light.set(1, hour, hour < 24 ? -1 : 99);
        }
        // All day the same HEAD: he is asleep at 18, the lamp not lit ahead.
        Check.due("other(0, 24) than none", light.other(0, 24), -11);
        Check.due("other(0, 0)", light.other(0, 0), 0);
        Check.due("other(1, 24), the same", light.other(1, 24), 0);
        Check.due("plans(0)", light.plans(0), 1);
        Check.due("other(1, 24) of none", light.other(1, 24), 11);
        light.set(0, 12, 1);
        Check.due("other(0, 24), an hour's rest at noon", light.other(0, 24), 0);
        light.set(0, 17, 1);
        Check.due("other(0, 24), an hour's rest ahead of dusk", light.other(0, 24), -1);
        Check.due("plan(17) stays", light.plan(17, 0), 0);
        Check.due("refusals", Check.refusals(light), 0);
    }

    private static void promise35Refused() {
        KeptLight light = new KeptLight();
        light.keeper(0);
        light.ship(3, 9);
        light.row(0, 0, 23);
        light.row(1, 0, 24);
        light.set(1, 3, 1);
        light.show(2, 0);
        Check.due("other(2, -1) of a ship", light.other(2, -1), BAD);
        Check.due("other(3, 201) of nothing", light.other(3, 201), BAD);
        Check.due("other(-1, 5)", light.other(-1, 5), BAD);
        Check.due("other(8, 5)", light.other(8, 5), BAD);
        Check.due("other(2, 5) of a ship", light.other(2, 5), OTHER);
        Check.due("other(3, 5) of nothing", light.other(3, 5), NOTHING);
        Check.due("other(0, 5) of 23", light.other(0, 5), BAD);
        Check.due("other(1, 5), no such keeper", light.other(1, 5), BAD);
        light.set(1, 3, -2);
        Check.due("other(1, 5), -2", light.other(1, 5), BAD);
        light.set(1, 3, 0);
        light.set(1, 0, 1);
        Check.due("other(1, 5), no such keeper at first", light.other(1, 5), BAD);
        Check.due("status(12)", light.status(12), 8);
        Check.due("status(13)", light.status(13), 1);
        Check.due("status(14)", light.status(14), 1);
    }

    private static void promise36Idle() {
        KeptLight light = new KeptLight();
        Check.due("idle(24), no keepers", light.idle(24), 0);
        for (int k = 0; k < 6; k++) {
            light.keeper(0);
        }
        light.tell(3, 500);
        Check.watch(light, 0, 0, 5);
        Check.watch(light, 1, 6, 17);
        Check.watch(light, 3, 18, 23);
        light.plan(20, 4);
        light.plan(22, 5);
        light.plan(23, 5);
        Check.due("idle(24)", light.idle(24), 1 << 1 | 1 << 2 | 1 << 4);
        Check.due("idle(18)", light.idle(18), 62);
        Check.due("idle(0)", light.idle(0), 63);
        Check.due("idle(-1)", light.idle(-1), BAD);
        Check.due("idle(201)", light.idle(201), BAD);
        Check.due("keeperOf(0, 3) stays", light.keeperOf(0, 3), 6);
        Check.due("status(12)", light.status(12), 2);
        light.tell(3, 9);
        // With oil for nine hours, whose evening hours are dark leaves oil to the others.
        Check.due("idle(24), too little oil", light.idle(24), 62);
        KeptLight ends = new KeptLight();
        ends.keeper(2);
        ends.keeper(2);
        ends.tell(3, 500);
        ends.plan(0, 0);
        ends.plan(23, 1);
        Check.due("idle(24), the first hour and the last", ends.idle(24), 0);
        Check.due("idle(23)", ends.idle(23), 2);
    }

    private static void thoughtsChangeNothing() {
        KeptLight light = stormy();
        light.boat(0, 1);
        light.boat(2, 50);
        light.pass(4);
        light.row(0, 0, 24);
        long[] before = all(light);
        light.would(200, 0);
        light.fails();
        light.comes();
        light.oil(200);
        light.better(3, 200);
        light.other(0, 200);
        light.idle(200);
        long[] after = all(light);
        for (int i = 0; i < before.length; i++) {
            Check.due("what " + i + " behind thoughts", after[i], before[i]);
        }
    }

    private static long[] all(KeptLight light) {
        long[] all = new long[60];
        for (int what = 0; what < 20; what++) {
            all[what] = light.status(what);
        }
        for (int what = 0; what < 6; what++) {
            all[20 + what] = light.keeperOf(0, what);
        }
        for (int ship = 0; ship < 8; ship++) {
            all[26 + ship] = light.shipOf(ship, 2);
            all[34 + ship] = light.shipOf(ship, 3);
        }
        all[42] = light.unlit();
        all[43] = light.logged(0);
        return all;
    }
}
