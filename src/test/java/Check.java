/** Counts the answers of one test program that are not as due. */
final class Check {
    private static int checked = 0;
    private static int wrong = 0;

    private Check() {
    }

    static void due(String call, long got, long want) {
        checked++;
        if (got != want) {
            wrong++;
            System.out.println(call + " answered " + got + ", due is " + want);
        }
    }

    /** Feeds a text and reads it as THE SKY: what sky() answered. */
    static int sky(KeptLight light, String text) {
        for (int i = 0; i < text.length(); i++) {
            light.feed(text.charAt(i));
        }
        return light.sky();
    }

    /** Puts a keeper (or NONE) in THE PLAN for hours from one to another, both with. */
    static void watch(KeptLight light, int keeper, int from, int to) {
        for (int hour = from; hour <= to; hour++) {
            light.plan(hour, keeper);
        }
    }

    /** Makes a row of ints in a shelf. */
    static void ints(KeptLight light, int shelf, int... values) {
        light.row(shelf, 2, values.length);
        for (int i = 0; i < values.length; i++) {
            light.set(shelf, i, values[i]);
        }
    }

    /** How many refusals of all sorts there were. */
    static int refusals(KeptLight light) {
        int all = 0;
        for (int what = 12; what <= 16; what++) {
            all += light.status(what);
        }
        return all;
    }

    static void end() {
        System.out.println(checked + " answers, " + wrong + " of them not as due");
        if (wrong != 0) {
            System.exit(1);
        }
    }
}
