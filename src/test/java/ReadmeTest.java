import java.io.IOException;
import java.lang.reflect.Method;
import java.nio.charset.StandardCharsets;
import java.nio.file.Files;
import java.nio.file.Path;
import java.util.List;
import java.util.Set;
import java.util.TreeSet;
import java.util.regex.Matcher;
import java.util.regex.Pattern;

/** The run of calls in README.md: each call's answer as the page tells it, and every call of the face in it. */
public final class ReadmeTest {
    private static final Checks CHECKS = new Checks();

    private static final Pattern TEXT = Pattern.compile("for \\(char sign : \"(.+)\"\\.toCharArray\\(\\)\\) \\{");
    private static final Pattern SAYS = Pattern.compile("    town\\.say\\(sign\\); +// 1 to (\\d+): .+");
    private static final Pattern CALL = Pattern.compile("town\\.([a-z]+)\\(([-0-9, ]*)\\); +// (-?\\d+): .+");
    private static final Set<String> NO_CALLS = Set.of("", "}", "OthersHands town = new OthersHands();");

    private static final OthersHands TOWN = new OthersHands();
    private static final Set<String> CALLED = new TreeSet<>();
    private static String text = "";

    public static void main(String[] args) throws Exception {
        List<String> lines = pageLines();
        int begin = lines.indexOf("```java");
        int end = begin + lines.subList(begin + 1, lines.size()).indexOf("```") + 1;
        CHECKS.holds("the page has a run of calls", begin >= 0 && end > begin);
        for (String line : lines.subList(begin + 1, end)) {
            follow(line);
        }
        for (Method method : OthersHands.class.getMethods()) {
            if (method.getDeclaringClass() == OthersHands.class) {
                CHECKS.holds("the run has a call of " + method.getName(), CALLED.contains(method.getName()));
            }
        }
        CHECKS.end();
    }

    private static List<String> pageLines() throws IOException {
        return Files.readAllLines(Path.of(System.getProperty("othershands.readme", "README.md")),
            StandardCharsets.US_ASCII);
    }

    private static void follow(String line) throws ReflectiveOperationException {
        Matcher book = TEXT.matcher(line);
        Matcher says = SAYS.matcher(line);
        Matcher call = CALL.matcher(line);
        if (book.matches()) {
            text = book.group(1);
        } else if (says.matches()) {
            sayText(Integer.parseInt(says.group(1)));
        } else if (call.matches()) {
            CHECKS.due(line, Long.parseLong(call.group(3)), answer(call.group(1), call.group(2)));
        } else {
            CHECKS.holds("a line that can be followed: " + line, NO_CALLS.contains(line) || line.startsWith("// "));
        }
    }

    private static void sayText(int signs) {
        CALLED.add("say");
        CHECKS.due("the signs of " + text, signs, text.length());
        for (int i = 0; i < text.length(); i++) {
            CHECKS.due("say " + text.charAt(i), i + 1, TOWN.say(text.charAt(i)));
        }
    }

    private static long answer(String name, String listed) throws ReflectiveOperationException {
        CALLED.add(name);
        String[] words = listed.isEmpty() ? new String[0] : listed.split(", ");
        Class<?>[] types = new Class<?>[words.length];
        Object[] numbers = new Object[words.length];
        for (int i = 0; i < words.length; i++) {
            types[i] = int.class;
            numbers[i] = Integer.valueOf(words[i]);
        }
        return ((Number) OthersHands.class.getMethod(name, types).invoke(TOWN, numbers)).longValue();
    }
}
