import java.io.IOException;
import java.lang.reflect.Method;
import java.nio.file.Files;
import java.nio.file.Path;
import java.util.ArrayList;
import java.util.List;
import java.util.regex.Matcher;
import java.util.regex.Pattern;

/**
 * Makes the calls that README.md shows, as they stand there, and compares the answers that it gives behind them. It is
 * run in the project's directory, as .ci/run does.
 */
public final class ReadmeTest {
    private static final String BEGIN = "```java";
    private static final String END = "```";
    private static final String MAKING = "KeptLight light = new KeptLight();";
    /** A call, its answer taken or not, and behind it the answer, with a remark or without. */
    private static final Pattern CALL =
        Pattern.compile("(?:(?:int|long) \\w+ = )?light\\.(\\w+)\\((.*)\\); +// (-?\\d+)(?:: .+)?");
    private static final Pattern LETTER = Pattern.compile("'(.)'");

    public static void main(String[] args) throws IOException {
        List<String> blocks = blocks(Files.readAllLines(Path.of("README.md")));
        Check.due("README.md shows calls", blocks.isEmpty() ? 0 : 1, 1);
        for (int i = 0; i < blocks.size(); i++) {
            Edge.holds("README.md, object " + (i + 1), blocks.get(i));
        }
        everyCallIsShown(String.join("", blocks));
        everyRefusalIsShown(String.join("", blocks));
        Check.end();
    }

    /** The Java that is shown, object by object, as Edge reads calls. */
    private static List<String> blocks(List<String> lines) {
        List<String> blocks = new ArrayList<>();
        List<String> block = null;
        for (String line : lines) {
            if (block == null) {
                block = line.equals(BEGIN) ? new ArrayList<>() : null;
            } else if (line.equals(END)) {
                blocks.add(calls(block));
                block = null;
            } else {
                block.add(line);
            }
        }
        Check.due("README.md ends each block of Java", block == null ? 1 : 0, 1);
        return blocks;
    }

    private static String calls(List<String> block) {
        if (block.size() < 2 || !block.get(0).equals(MAKING)) {
            throw new IllegalArgumentException("README.md shows Java that makes no object and calls it: " + block);
        }
        StringBuilder calls = new StringBuilder();
        for (String line : block.subList(1, block.size())) {
            calls.append(call(line)).append('\n');
        }
        return calls.toString();
    }

    private static String call(String line) {
        Matcher form = CALL.matcher(line);
        if (!form.matches()) {
            throw new IllegalArgumentException("README.md shows what is no call with an answer: " + line);
        }
        return form.group(1) + "(" + numbers(form.group(2)) + ") = " + form.group(3);
    }

    /** What a call is given, with the numbers of its letters and of NONE. */
    private static String numbers(String given) {
        String text = given.replace("KeptLight.NONE", String.valueOf(KeptLight.NONE));
        return LETTER.matcher(text).replaceAll(letter -> String.valueOf((int) letter.group(1).charAt(0)));
    }

    private static void everyCallIsShown(String shown) {
        for (Method method : KeptLight.class.getMethods()) {
            if (method.getDeclaringClass() == KeptLight.class) {
                boolean isShown = shown.lines().anyMatch(line -> line.startsWith(method.getName() + "("));
                Check.due("README.md shows " + method.getName() + "()", isShown ? 1 : 0, 1);
            }
        }
    }

    private static void everyRefusalIsShown(String shown) {
        for (int refusal = -106; refusal <= -102; refusal++) {
            String answer = " = " + refusal;
            Check.due("README.md shows " + refusal, shown.lines().anyMatch(line -> line.endsWith(answer)) ? 1 : 0, 1);
        }
        Check.due("README.md shows a FAULT", shown.lines().anyMatch(line -> line.matches("sky\\(\\) = -3\\d\\d")) ? 1 : 0,
            1);
    }
}
