/** Promises 9 to 11, 19 and 20: THE TAPE, THE SKY and what is DARK. */
public final class SkyTest {
    private static final long BAD = -102;
    private static final long FULL = -106;

    public static void main(String[] args) {
        promise9Feed();
        promise10Wipe();
        promise11Sky();
        promise11Faults();
        promise11FaultChangesNothing();
        promise11TwentyRuns();
        promise19Weather();
        promise20Dark();
        Check.end();
    }

    private static void promise9Feed() {
        KeptLight light = new KeptLight();
        Check.due("feed(0)", light.feed(0), 1);
        Check.due("feed(255)", light.feed(255), 2);
        Check.due("feed(-1)", light.feed(-1), BAD);
        Check.due("feed(256)", light.feed(256), BAD);
        for (int size = 3; size <= 250; size++) {
            Check.due("feed to " + size, light.feed(99), size);
        }
        Check.due("feed(256), full", light.feed(256), BAD);
        Check.due("feed(99), full", light.feed(99), FULL);
        Check.due("status(17)", light.status(17), 250);
        Check.due("status(12)", light.status(12), 3);
        Check.due("status(16)", light.status(16), 1);
    }

    private static void promise10Wipe() {
        KeptLight light = new KeptLight();
        Check.due("wipe()", light.wipe(), 0);
        light.feed(99);
        light.feed(53);
        Check.due("wipe() of two", light.wipe(), 2);
        Check.due("status(17)", light.status(17), 0);
        Check.due("feed(102)", light.feed(102), 1);
        light.feed(53);
        Check.due("sky()", light.sky(), 1);
        Check.due("weather(0)", light.weather(0), 1);
    }

    private static void promise11Sky() {
        KeptLight light = new KeptLight();
        Check.due("sky", Check.sky(light, "c1 f05 s99"), 3);
        Check.due("status(17)", light.status(17), 0);
        Check.due("status(10)", light.status(10), 3);
        Check.due("weather(0)", light.weather(0), 0);
        Check.due("weather(1)", light.weather(1), 1);
        Check.due("weather(5)", light.weather(5), 1);
        Check.due("weather(6)", light.weather(6), 2);
        Check.due("weather(104)", light.weather(104), 2);
        Check.due("weather(105)", light.weather(105), 0);
        Check.due("another sky", Check.sky(light, "s2"), 1);
        Check.due("status(10) of another", light.status(10), 1);
        Check.due("weather(0) of another", light.weather(0), 2);
        Check.due("refusals", Check.refusals(light), 0);
    }

    private static void promise11Faults() {
        Object[][] faults = {
            {"", 0}, {" c1", 0}, {"x1", 0}, {"C1", 0}, {"1", 0}, {"c", 1}, {"cc", 1}, {"c ", 1}, {"c0", 1}, {"c00", 1},
            {"c00 f1", 1}, {"c0x", 1}, {"c1 ", 3}, {"c1  f1", 3}, {"c1f1", 2}, {"c12f1", 3}, {"c123", 3}, {"c1 f", 4},
            {"c1 f0", 4}, {"c1 x", 3}, {"c1\t", 2}, {"c1 f2 s", 7}, {"c1 f2 s3 ", 9}, {"c1,", 2}, {"c:", 1}, {"c/", 1},
            {"c1:", 2}, {"c1/", 2}, {"\u00ff", 0}, {"c10 f20 s0 c1", 9},
        };
        KeptLight light = new KeptLight();
        int refused = 0;
        for (Object[] fault : faults) {
            String text = (String) fault[0];
            Check.due("sky of '" + text + "'", Check.sky(light, text), -300 - (Integer) fault[1]);
            Check.due("tape after '" + text + "'", light.status(17), 0);
            refused++;
            Check.due("status(12)", light.status(12), refused);
        }
    }

    private static void promise11FaultChangesNothing() {
        KeptLight light = new KeptLight();
        Check.sky(light, "f3 s2");
        Check.due("a fault", Check.sky(light, "c9 s9 f9 x"), -309);
        Check.due("status(10)", light.status(10), 2);
        Check.due("weather(2)", light.weather(2), 1);
        Check.due("weather(4)", light.weather(4), 2);
        Check.due("weather(5)", light.weather(5), 1);
    }

    private static void promise11TwentyRuns() {
        StringBuilder twenty = new StringBuilder("s1");
        for (int run = 1; run < 20; run++) {
            twenty.append(" c2");
        }
        KeptLight light = new KeptLight();
        Check.due("20 runs", Check.sky(light, twenty.toString()), 20);
        Check.due("weather(38)", light.weather(38), 0);
        Check.due("weather(39)", light.weather(39), 2);
        Check.due("a 21st", Check.sky(light, twenty + " f1"), -360);
        Check.due("a 21st that is none", Check.sky(light, twenty + " ff"), -360);
        Check.due("a blank behind", Check.sky(light, twenty + " "), -360);
        Check.due("a letter behind", Check.sky(light, twenty + "f"), -359);
        StringBuilder longest = new StringBuilder("f99");
        for (int run = 1; run < 20; run++) {
            longest.append(" f99");
        }
        Check.due("the longest", Check.sky(light, longest + ""), 20);
        Check.due("weather(1979)", light.weather(1979), 1);
    }

    private static void promise19Weather() {
        KeptLight light = new KeptLight();
        Check.due("weather(0), no sky", light.weather(0), 0);
        Check.due("weather(MAX), no sky", light.weather(Integer.MAX_VALUE), 0);
        Check.sky(light, "c1 f1 s1");
        Check.due("weather(3)", light.weather(3), 0);
        Check.due("weather(MAX)", light.weather(Integer.MAX_VALUE), Integer.MAX_VALUE % 3);
        Check.due("weather(-1)", light.weather(-1), BAD);
        light.pass(2);
        Check.due("weather(0) is no later", light.weather(0), 0);
        Check.due("status(12)", light.status(12), 1);
    }

    private static void promise20Dark() {
        KeptLight light = new KeptLight();
        Check.due("dark(5)", light.dark(5), 1);
        Check.due("dark(6)", light.dark(6), 0);
        Check.due("dark(17)", light.dark(17), 0);
        Check.due("dark(18)", light.dark(18), 1);
        Check.due("dark(29)", light.dark(29), 1);
        Check.due("dark(30)", light.dark(30), 0);
        Check.due("dark(-1)", light.dark(-1), BAD);
        light.tell(0, 0);
        light.tell(1, 24);
        Check.due("dark(0), no dark", light.dark(0), 0);
        Check.due("dark(23), no dark", light.dark(23), 0);
        light.tell(0, 12);
        light.tell(1, 13);
        Check.due("dark(11)", light.dark(11), 1);
        Check.due("dark(12)", light.dark(12), 0);
        Check.due("dark(13)", light.dark(13), 1);
        Check.due("status(12)", light.status(12), 1);
    }
}
