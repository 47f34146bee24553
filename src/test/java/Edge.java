import java.lang.reflect.Method;
import java.util.ArrayList;
import java.util.Arrays;
import java.util.HashMap;
import java.util.List;
import java.util.Map;
import java.util.Set;
import java.util.function.IntFunction;
import java.util.regex.Matcher;
import java.util.regex.Pattern;

/**
 * Makes the calls at one edge that the document names, each written as "call(1, 2) = answer" (a line each, or with a
 * semicolon between), on a new object, and compares every answer. Behind each call that is refused, or that only asks,
 * the object must show in all that can be asked of it the same as another that was spared the call, but for the count
 * of refusals.
 */
final class Edge {
    /** As many calls as the document gives one object. */
    private static final int MOST_CALLS = 512;
    private static final int BAD = -102;
    private static final int FULL = -106;
    private static final int FIRST_COUNT = 12;
    private static final Pattern FORM = Pattern.compile("(\\w+)\\(([^)]*)\\)(?: = (-?\\d+))?");
    private static final Set<String> ASKING = Set.of("element", "holds", "says", "weather", "dark", "keeperOf",
        "shipOf", "shipAt", "many", "log", "logged", "difference", "differences", "unlit", "would", "fails", "comes",
        "oil", "better", "other", "idle", "judge", "status");
    /** What these answer may be any number, so that none of it says that the call was refused. */
    private static final Set<String> NEVER_REFUSED = Set.of("element", "seed");

    private static final Map<String, Call> READ = new HashMap<>();

    private record Call(String text, Method method, Object[] given, long want) {
        long askOf(KeptLight light) {
            try {
                return ((Number) method.invoke(light, given)).longValue();
            } catch (ReflectiveOperationException thrown) {
                throw new IllegalStateException(text + " threw " + thrown.getCause());
            }
        }

        boolean isRefused() {
            boolean isSky = method.getName().equals("sky") && want <= -300;
            return isSky || (!NEVER_REFUSED.contains(method.getName()) && want <= BAD && want >= FULL);
        }

        int countRaised() {
            return method.getName().equals("sky") ? FIRST_COUNT : (int) (FIRST_COUNT + BAD - want);
        }

        boolean isAsking() {
            return ASKING.contains(method.getName());
        }
    }

    private Edge() {
    }

    static void holds(String edge, String... texts) {
        List<Call> calls = new ArrayList<>();
        for (String text : texts) {
            for (String line : text.split("[\n;]")) {
                if (!line.isBlank()) {
                    calls.add(read(line.strip(), true));
                }
            }
        }
        Check.due(edge + ": calls within the object's " + MOST_CALLS, calls.size() <= MOST_CALLS ? 1 : 0, 1);
        KeptLight light = new KeptLight();
        for (Call call : calls) {
            Check.due(edge + ": " + call.text, call.askOf(light), call.want);
        }
        for (int i = 0; i < calls.size() && i < MOST_CALLS - 1; i++) {
            if (calls.get(i).isRefused() || calls.get(i).isAsking()) {
                dueAsIfSpared(edge, calls, i);
            }
        }
    }

    private static Call read(String line, boolean hasAnswer) {
        return READ.computeIfAbsent(line, text -> readNew(text, hasAnswer));
    }

    private static Call readNew(String line, boolean hasAnswer) {
        Matcher form = FORM.matcher(line);
        if (!form.matches() || hasAnswer != (form.group(3) != null)) {
            throw new IllegalArgumentException("no call: " + line);
        }
        Method method = null;
        for (Method other : KeptLight.class.getMethods()) {
            if (other.getDeclaringClass() == KeptLight.class && other.getName().equals(form.group(1))) {
                method = other;
            }
        }
        if (method == null) {
            throw new IllegalArgumentException("no such call: " + line);
        }
        String[] numbers = form.group(2).isEmpty() ? new String[0] : form.group(2).split(", ");
        Class<?>[] types = method.getParameterTypes();
        Object[] given = new Object[numbers.length];
        for (int i = 0; i < numbers.length; i++) {
            boolean isLong = types[i] == long.class;
            given[i] = isLong ? (Object) Long.valueOf(numbers[i]) : (Object) Integer.valueOf(numbers[i]);
        }
        return new Call(form.group(0), method, given, hasAnswer ? Long.parseLong(form.group(3)) : 0);
    }

    /** The object with the calls up to the one in a place, with it or without. */
    private static KeptLight replayed(List<Call> calls, int place, boolean isSpared) {
        KeptLight light = new KeptLight();
        for (int i = 0; i < place; i++) {
            calls.get(i).askOf(light);
        }
        if (!isSpared) {
            calls.get(place).askOf(light);
        } else if (calls.get(place).method.getName().equals("sky")) {
            // THE TAPE is empty behind sky() in any case.
            light.wipe();
        }
        return light;
    }

    private static void dueAsIfSpared(String edge, List<Call> calls, int place) {
        Call call = calls.get(place);
        KeptLight before = replayed(calls, place, true);
        for (List<String> sight : sights(before.status(6), before.status(7), MOST_CALLS - place - 1)) {
            KeptLight light = replayed(calls, place, false);
            KeptLight spared = replayed(calls, place, true);
            for (String text : sight) {
                Call look = read(text, false);
                boolean isRaised = call.isRefused() && text.equals("status(" + call.countRaised() + ")");
                String label = edge + ": behind " + call.text + " of " + call.want + ", " + text;
                Check.due(label, look.askOf(light), look.askOf(spared) + (isRaised ? 1 : 0));
            }
        }
    }

    /** All that can be seen of an object, in runs of calls that are short enough for what calls are left. */
    private static List<List<String>> sights(int ships, int entries, int left) {
        List<List<String>> sights = new ArrayList<>();
        List<String> asked = asked(ships, entries);
        addInParts(sights, asked, List.of(), left);
        addInParts(sights, asked, List.of("back()"), left);
        addInParts(sights, each(0, 23, hour -> "plan(" + hour + ", -1)").lines().toList(), List.of(), left);
        addInParts(sights, List.of("tell(0, 0)", "tell(1, 24)", "tell(2, 1)", "tell(3, 0)", "tell(4, 0)", "seed(0)",
            "boat(0, -1)", "boat(1, 1)", "boat(2, 0)", "boat(3, 0)"), List.of(), left);
        addInParts(sights, each(0, 20, hour -> "weather(" + hour + ")").lines().toList(), List.of("sky()"), left);
        return sights;
    }

    private static void addInParts(List<List<String>> sights, List<String> looks, List<String> ahead, int left) {
        int size = left - ahead.size();
        for (int from = 0; size > 0 && from < looks.size(); from += size) {
            List<String> part = new ArrayList<>(ahead);
            part.addAll(looks.subList(from, Math.min(looks.size(), from + size)));
            sights.add(part);
        }
    }

    private static List<String> asked(int ships, int entries) {
        StringBuilder text = new StringBuilder(each(0, 19, what -> "status(" + what + ")"));
        for (int s = 0; s < 8; s++) {
            String shelf = "(" + s + ", ";
            text.append("holds(" + s + ")\n");
            text.append(each(0, 39, i -> "element" + shelf + i + ")"));
            text.append(each(0, 7, kind -> "says" + shelf + kind + ")"));
        }
        text.append(each(0, 30, hour -> "weather(" + hour + ")"));
        text.append(each(0, 23, hour -> "dark(" + hour + ")"));
        text.append(each(0, 35, i -> "keeperOf(" + i / 6 + ", " + i % 6 + ")"));
        text.append(each(0, 4 * ships - 1, i -> "shipOf(" + i / 4 + ", " + i % 4 + ")"));
        text.append(each(0, 4 * entries - 1, i -> "log(" + i / 4 + ", " + i % 4 + ")"));
        text.append(each(0, 8, i -> "difference(" + i / 3 + ", " + i % 3 + ")"));
        text.append("unlit()\ndifferences(-1)\nfails()\ncomes()\noil(24)\nidle(24)\n");
        text.append(each(0, 5, what -> "would(48, " + what + ")"));
        return Arrays.asList(text.toString().split("\n"));
    }

    // ---- calls that many edges need

    /** A line for each number from one to another, both with. */
    static String each(int from, int to, IntFunction<String> line) {
        StringBuilder text = new StringBuilder();
        for (int number = from; number <= to; number++) {
            text.append(line.apply(number)).append('\n');
        }
        return text.toString();
    }

    /** One call again and again. */
    static String times(int times, String line) {
        return each(1, times, number -> line);
    }

    /** The bytes of a text come to THE TAPE, which is empty. */
    static String fed(String text) {
        return each(1, text.length(), size -> "feed(" + (int) text.charAt(size - 1) + ") = " + size);
    }

    /** A text becomes THE SKY, or is refused. */
    static String sky(String text, int answer) {
        return fed(text) + "sky() = " + answer + "\n";
    }

    /** A keeper comes into THE PLAN for hours that nobody has, from one to another, both with. */
    static String watch(int keeper, int from, int to) {
        return each(from, to, hour -> "plan(" + hour + ", " + keeper + ") = -1");
    }

    /** Nobody has those hours of a keeper any more. */
    static String leave(int keeper, int from, int to) {
        return each(from, to, hour -> "plan(" + hour + ", -1) = " + keeper);
    }

    /** A shelf holds a row of ints. */
    static String ints(int s, int... values) {
        return "row(" + s + ", 2, " + values.length + ") = 1\n"
            + each(0, values.length - 1, i -> "set(" + s + ", " + i + ", " + values[i] + ") = 1");
    }

    /** The row in a shelf has these elements from its first on. */
    static String elements(int s, long... values) {
        return each(0, values.length - 1, i -> "element(" + s + ", " + i + ") = " + values[i]);
    }

    /** The counts of refusals -102 to -106. */
    static String refusals(int... counts) {
        return each(0, counts.length - 1, i -> "status(" + (FIRST_COUNT + i) + ") = " + counts[i]);
    }
}
