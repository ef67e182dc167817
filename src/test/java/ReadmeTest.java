import java.lang.reflect.Method;
import java.lang.reflect.Modifier;
import java.nio.file.Files;
import java.nio.file.Path;
import java.util.ArrayList;
import java.util.Arrays;
import java.util.List;
import java.util.Map;
import java.util.TreeSet;
import java.util.regex.Matcher;
import java.util.regex.Pattern;

/** Makes the calls that README.md shows, in its order, and compares the answers that it tells. */
public final class ReadmeTest {
    private static final int CALLS_MOST = 512;
    private static final String MADE = "PullSaw saw = new PullSaw();";
    private static final List<String> FEEDING = List.of("for (char letter : text.toCharArray()) {", "saw.feed(letter);", "}");
    private static final Pattern TEXT = Pattern.compile("String text = \"([^\"]*)\";");
    private static final Pattern CALL = Pattern.compile("saw\\.(\\w+)\\(([^)]*)\\); *// (-?\\d+|[A-Z]+)(:.*)?");
    private static final Map<String, Integer> NAMED = Map.of("NONE", PullSaw.NONE, "UNKNOWN", PullSaw.UNKNOWN,
        "OUTSIDE", PullSaw.OUTSIDE, "NOT", PullSaw.NOT, "FULL", PullSaw.FULL);

    private static int wrong = 0;
    private static PullSaw saw = null;
    private static String text = "";
    private static int calls = 0;
    private static final TreeSet<String> shown = new TreeSet<>();

    public static void main(String[] args) throws Exception {
        for (String line : codeOf(Path.of("README.md"))) {
            follow(line);
        }
        TreeSet<String> missing = new TreeSet<>();
        for (Method method : PullSaw.class.getDeclaredMethods()) {
            if (Modifier.isPublic(method.getModifiers())) {
                missing.add(method.getName());
            }
        }
        missing.removeAll(shown);
        if (!missing.isEmpty()) {
            fail("not shown: " + missing);
        }
        if (wrong > 0) {
            System.exit(1);
        }
    }

    private static void fail(String what) {
        wrong++;
        System.out.println("README.md: " + what);
    }

    private static List<String> codeOf(Path page) throws Exception {
        List<String> code = new ArrayList<>();
        boolean within = false;
        for (String line : Files.readAllLines(page)) {
            if (line.startsWith("```")) {
                within = line.equals("```java");
            } else if (within) {
                code.add(line.strip());
            }
        }
        return code;
    }

    private static void follow(String line) throws Exception {
        Matcher told = TEXT.matcher(line);
        Matcher call = CALL.matcher(line);
        if (line.equals(MADE)) {
            saw = new PullSaw();
            calls = 0;
        } else if (told.matches()) {
            text = told.group(1);
        } else if (line.equals(FEEDING.get(1))) {
            for (char letter : text.toCharArray()) {
                saw.feed(letter);
                calls++;
            }
            shown.add("feed");
        } else if (call.matches()) {
            compare(line, call);
        } else if (!FEEDING.contains(line)) {
            fail("not understood: " + line);
        }
    }

    private static void compare(String line, Matcher call) throws Exception {
        List<Integer> numbers = new ArrayList<>();
        for (String part : call.group(2).split(",")) {
            if (!part.isBlank()) {
                numbers.add(numberOf(part.strip()));
            }
        }
        Class<?>[] kinds = new Class<?>[numbers.size()];
        Arrays.fill(kinds, int.class);
        calls++;
        if (calls > CALLS_MOST) {
            fail("more than " + CALLS_MOST + " calls of one object: " + line);
            return;
        }
        int got = (Integer) PullSaw.class.getMethod(call.group(1), kinds).invoke(saw, numbers.toArray());
        shown.add(call.group(1));
        if (got != numberOf(call.group(3))) {
            fail("answered " + got + ": " + line);
        }
    }

    private static int numberOf(String word) {
        if (word.length() == 3 && word.charAt(0) == '\'') {
            return word.charAt(1);
        }
        return NAMED.containsKey(word) ? NAMED.get(word) : Integer.parseInt(word);
    }
}
