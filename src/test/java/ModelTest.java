import java.util.Random;

/** Random calls on KeptLight and on PlainLight: both must answer alike. */
public final class ModelTest {
    private static final int RUNS = 400;
    private static final int CALLS = 512;
    private static final String[] SKIES = {
        "c3 f2 s1", "f9", "s20 c1", "c99 s3 f5", "c05 f07 s09", "c1 f1 s1 c2 f2 s2 c3 f3 s3", "c0", "x", "c", "c5 ",
        "c5  f1", " c5", "c123", "f1,s2", "c00", "c0f", "cf", "c9f",
    };

    private final Random random;
    private final KeptLight light = new KeptLight();
    private final PlainLight plain = new PlainLight();
    private final boolean wild;

    private ModelTest(int run) {
        random = new Random(run);
        wild = run % 3 == 0;
    }

    private int below(int n) {
        return random.nextInt(n);
    }

    /** A number from least to most, now and then one out of them. */
    private int in(int least, int most) {
        int chance = below(wild ? 12 : 60);
        if (chance == 0) {
            return least - 1;
        }
        if (chance == 1) {
            return most + 1;
        }
        if (chance == 2) {
            return random.nextInt();
        }
        if (chance == 3) {
            return below(2) == 0 ? least : most;
        }
        return least + below(most - least + 1);
    }

    private int hours() {
        return below(4) == 0 ? in(0, 200) : in(0, 30);
    }

    private int someKeeper() {
        return in(-1, light.status(5) - 1 + (wild ? 1 : 0));
    }

    private int someShip() {
        return in(0, Math.max(0, light.status(6) - 1));
    }

    private int soon() {
        return below(5) == 0 ? in(light.status(0), light.status(0) + 999) : light.status(0) + below(12);
    }

    private void due(String call, long got, long want) {
        Check.due(call, got, want);
    }

    private void begin() {
        for (int k = 0; k < below(5); k++) {
            keeper();
        }
        if (below(3) > 0) {
            for (int h = 0; h < 24; h++) {
                int k = below(light.status(5) + 1) - 1;
                due("plan", light.plan(h, k), plain.plan(h, k));
            }
        }
        if (below(3) > 0) {
            int v = below(below(2) == 0 ? 60 : 5000);
            due("tell", light.tell(3, v), plain.tell(3, v));
            v = below(40);
            due("tell", light.tell(4, v), plain.tell(4, v));
        }
        if (below(3) > 0) {
            skyText(SKIES[below(6)]);
        }
    }

    private void keeper() {
        int rank = in(0, 2);
        due("keeper(" + rank + ")", light.keeper(rank), plain.keeper(rank));
    }

    private void skyText(String text) {
        for (int i = 0; i < text.length(); i++) {
            due("feed", light.feed(text.charAt(i)), plain.feed(text.charAt(i)));
        }
        due("sky() of " + text, light.sky(), plain.sky());
    }

    private void someSky() {
        if (below(3) > 0) {
            skyText(SKIES[below(SKIES.length)]);
            return;
        }
        StringBuilder text = new StringBuilder();
        int runs = 1 + below(22);
        for (int r = 0; r < runs; r++) {
            text.append("cfs".charAt(below(3))).append(1 + below(20)).append(r < runs - 1 ? " " : "");
        }
        if (below(2) == 0) {
            text.setCharAt(below(text.length()), "cfs 0123x".charAt(below(9)));
        }
        skyText(text.toString());
    }

    private void planRow(int s) {
        int size = below(4) == 0 ? in(0, 40) : 24 + below(17);
        int sort = below(4);
        due("row", light.row(s, sort, size), plain.row(s, sort, size));
        for (int h = 0; h < 24; h++) {
            if (below(3) > 0) {
                int k = someKeeper();
                due("set", light.set(s, h, k), plain.set(s, h, k));
            }
        }
    }

    private void toldRow(int s) {
        int i = in(0, Math.max(0, light.status(7) - 1));
        int n = below(6);
        int sort = below(4);
        due("row", light.row(s, sort, 2 * n), plain.row(s, sort, 2 * n));
        for (int k = 0; k < n; k++) {
            int what = i < 0 || i + k < 0 || i + k >= light.status(7) || below(20) == 0 ? 4 : light.log(i + k, 1);
            int ship = i < 0 || i + k < 0 || i + k >= light.status(7) || below(20) == 0 ? 0 : light.log(i + k, 2);
            if (i >= 0 && i + k >= 0 && i + k < light.status(7)) {
                plain.log(i + k, 1);
            }
            due("set", light.set(s, 2 * k, what), plain.set(s, 2 * k, what));
            due("set", light.set(s, 2 * k + 1, ship), plain.set(s, 2 * k + 1, ship));
        }
        due("judge(" + i + ", " + s + ", " + n + ")", light.judge(i, s, n), plain.judge(i, s, n));
    }

    private void call() {
        int a;
        int b;
        int c;
        switch (below(46)) {
            case 0:
                a = in(0, 7);
                b = in(0, 4);
                c = in(0, 40);
                due("row", light.row(a, b, c), plain.row(a, b, c));
                break;
            case 1:
            case 2:
                a = in(0, 7);
                b = in(0, 39);
                long v = below(2) == 0 ? random.nextLong() : below(300) - 150;
                due("set", light.set(a, b, v), plain.set(a, b, v));
                due("element", light.element(a, b), plain.element(a, b));
                break;
            case 3:
                copy();
                break;
            case 4:
                a = in(0, 7);
                b = in(0, 39);
                due("element", light.element(a, b), plain.element(a, b));
                break;
            case 5:
                a = in(0, 7);
                due("holds", light.holds(a), plain.holds(a));
                break;
            case 6:
            case 7:
                a = in(0, 7);
                b = below(8) == 0 ? -1 : someShip();
                due("show", light.show(a, b), plain.show(a, b));
                break;
            case 8:
            case 9:
                a = in(0, 7);
                b = in(0, 7);
                due("says(" + a + ", " + b + ")", light.says(a, b), plain.says(a, b));
                break;
            case 10:
                a = in(0, 255);
                due("feed", light.feed(a), plain.feed(a));
                break;
            case 11:
                due("wipe", light.wipe(), plain.wipe());
                break;
            case 12:
                someSky();
                break;
            case 13:
                keeper();
                break;
            case 14:
            case 15:
                a = in(0, 23);
                b = someKeeper();
                due("plan", light.plan(a, b), plain.plan(a, b));
                break;
            case 16:
                a = in(0, 7);
                planRow(Math.floorMod(a, 8));
                due("plans", light.plans(a), plain.plans(a));
                break;
            case 17:
            case 18:
                tell();
                break;
            case 19:
            case 20:
                boat();
                break;
            case 21:
            case 22:
            case 23:
                a = in(3, 7);
                b = soon();
                due("ship(" + a + ", " + b + ")", light.ship(a, b), plain.ship(a, b));
                break;
            case 24:
            case 25:
                a = hours();
                due("pass(" + a + ")", light.pass(a), plain.pass(a));
                break;
            case 26:
                a = in(0, light.status(0) + 50);
                due("weather", light.weather(a), plain.weather(a));
                due("dark", light.dark(a), plain.dark(a));
                break;
            case 27:
                a = in(0, Math.max(0, light.status(5) - 1));
                b = in(0, 5);
                due("keeperOf(" + a + ", " + b + ")", light.keeperOf(a, b), plain.keeperOf(a, b));
                break;
            case 28:
                a = someShip();
                b = in(0, 3);
                due("shipOf(" + a + ", " + b + ")", light.shipOf(a, b), plain.shipOf(a, b));
                break;
            case 29:
                a = Math.max(-1, light.status(0) - below(24) + 12);
                b = in(0, 3);
                due("shipAt(" + a + ", " + b + ")", light.shipAt(a, b), plain.shipAt(a, b));
                break;
            case 30:
                a = in(0, 7);
                b = in(0, 2);
                due("many", light.many(a, b), plain.many(a, b));
                break;
            case 31:
                a = in(0, Math.max(0, light.status(7) - 1));
                b = in(0, 3);
                due("log(" + a + ", " + b + ")", light.log(a, b), plain.log(a, b));
                break;
            case 32:
                a = in(0, 6);
                due("logged", light.logged(a), plain.logged(a));
                break;
            case 33:
                a = below(3);
                b = in(0, 2);
                due("difference(" + a + ", " + b + ")", light.difference(a, b), plain.difference(a, b));
                break;
            case 34:
                a = someKeeper();
                due("differences(" + a + ")", light.differences(a), plain.differences(a));
                due("unlit", light.unlit(), plain.unlit());
                break;
            case 35:
            case 36:
                a = hours();
                b = in(0, 5);
                due("would(" + a + ", " + b + ")", light.would(a, b), plain.would(a, b));
                break;
            case 37:
                due("fails", light.fails(), plain.fails());
                due("comes", light.comes(), plain.comes());
                break;
            case 38:
                a = hours();
                due("oil(" + a + ")", light.oil(a), plain.oil(a));
                break;
            case 39:
                a = in(0, 23);
                b = hours();
                due("better(" + a + ", " + b + ")", light.better(a, b), plain.better(a, b));
                break;
            case 40:
                a = in(0, 7);
                planRow(Math.floorMod(a, 8));
                b = hours();
                due("other(" + a + ", " + b + ")", light.other(a, b), plain.other(a, b));
                break;
            case 41:
                a = hours();
                due("idle(" + a + ")", light.idle(a), plain.idle(a));
                break;
            case 42:
                toldRow(below(8));
                break;
            case 43:
                a = below(3) == 0 ? in(1, 60) : in(1, 9);
                due("days(" + a + ")", light.days(a), plain.days(a));
                break;
            case 44:
                a = random.nextInt();
                due("seed", light.seed(a), plain.seed(a));
                break;
            default:
                if (below(2) == 0) {
                    due("image", light.image(), plain.image());
                } else {
                    due("back", light.back(), plain.back());
                }
                break;
        }
    }

    private void copy() {
        int p = in(0, 7);
        int q = below(2) == 0 ? p : in(0, 7);
        int i = below(4) > 0 ? below(6) : in(0, 40);
        int j = below(4) > 0 ? below(6) : in(0, 40);
        int n = below(4) > 0 ? below(10) : in(0, 40);
        String call = "copy(" + p + ", " + q + ", " + i + ", " + j + ", " + n + ")";
        due(call, light.copy(p, q, i, j, n), plain.copy(p, q, i, j, n));
        for (int k = 0; k < 40; k++) {
            due("element after " + call, light.element(q, k), plain.element(q, k));
        }
    }

    private void tell() {
        int what = in(0, 4);
        int[] least = {0, 13, 1, 0, 0};
        int[] most = {12, 24, 4, 80, 20};
        boolean is = what >= 0 && what <= 4;
        int v = is ? in(least[what], most[what]) : 0;
        if (what >= 3 && below(5) == 0) {
            v = in(0, 9999);
        }
        due("tell(" + what + ", " + v + ")", light.tell(what, v), plain.tell(what, v));
    }

    private void boat() {
        int what = in(0, 3);
        int v = what == 0 ? below(4) == 0 ? in(light.status(0), light.status(0) + 9999) : light.status(0) + below(60)
            : what == 1 ? in(1, below(2) == 0 ? 999 : 30) : in(0, below(2) == 0 ? 9999 : 50);
        if (what == 0 && below(8) == 0) {
            v = -1;
        }
        due("boat(" + what + ", " + v + ")", light.boat(what, v), plain.boat(what, v));
    }

    private void compareStatus() {
        for (int what = -1; what <= 20; what++) {
            due("status(" + what + ")", light.status(what), plain.status(what));
        }
    }

    public static void main(String[] args) {
        for (int run = 0; run < RUNS; run++) {
            ModelTest test = new ModelTest(run);
            test.begin();
            for (int call = 0; call < CALLS; call++) {
                test.call();
                if (call % 16 == 0) {
                    test.compareStatus();
                }
            }
            test.compareStatus();
        }
        Check.end();
    }
}
