import java.io.IOException;
import java.lang.reflect.Constructor;
import java.lang.reflect.Field;
import java.lang.reflect.Method;
import java.lang.reflect.Modifier;
import java.nio.charset.StandardCharsets;
import java.nio.file.Files;
import java.nio.file.Path;
import java.util.HashSet;
import java.util.Set;
import java.util.TreeSet;

/** The public face as the document tells it, and what can be seen of LANGUAGE.md from outside. */
public final class FaceTest {
    private static final Checks CHECKS = new Checks();

    private static final String[] METHODS = {
        "int say(int)", "int wipe()", "int fault()", "int book()", "int thing(int,int)", "int join(int,int)",
        "int part(int)", "int set(int,int)", "int loaves(int,int)", "int touched(int,int)", "int may(int,int)",
        "int near(int,int)", "long share(int,int,int)", "int seen(int,int)", "int forget()", "int filled(int)",
        "int sure(int,int)", "int fed(int)", "int lack()", "int makers(int,int)", "int washed(int,int)",
        "int married(int)", "int days(int,int,int)", "int image(int)", "int restore(int)", "int told(int)",
    };

    private static final String[] CONSTANTS = {
        "int NONE = -6", "int UNKNOWN = -1", "int OUTSIDE = -2", "int STATE = -3", "int FULL = -4", "int NO = -5",
        "long LOST = -1000000000000000000",
    };

    /** No exception is wanted anywhere in the document, so none is thrown or caught. */
    private static final String[] WORDS_LEFT_OUT = {
        "->", "::", "import ", "package ", "throw", "catch", "finally", "synchronized", "assert", "native",
        "Random", "System.out", "System.nano", "System.current", "Thread", "Exact(", "double", "float",
    };

    public static void main(String[] args) throws Exception {
        int modifiers = OthersHands.class.getModifiers();
        CHECKS.holds("the class is public and final", Modifier.isPublic(modifiers) && Modifier.isFinal(modifiers));
        constants();
        constructors();
        methods();
        for (Class<?> inner : OthersHands.class.getDeclaredClasses()) {
            inner(inner);
        }
        CHECKS.holds("at most twelve classes", OthersHands.class.getDeclaredClasses().length < 12);
        source();
        CHECKS.end();
    }

    private static void constants() throws IllegalAccessException {
        Set<String> found = new TreeSet<>();
        for (Field field : OthersHands.class.getDeclaredFields()) {
            int modifiers = field.getModifiers();
            if (Modifier.isPublic(modifiers)) {
                CHECKS.holds(field + " is a constant", Modifier.isStatic(modifiers) && Modifier.isFinal(modifiers));
                found.add(field.getType() + " " + field.getName() + " = " + field.get(null));
            } else {
                CHECKS.holds(field + " is private", Modifier.isPrivate(modifiers));
            }
        }
        CHECKS.holds("the constants are " + found, found.equals(Set.of(CONSTANTS)));
    }

    private static void constructors() {
        Constructor<?>[] all = OthersHands.class.getDeclaredConstructors();
        boolean one = all.length == 1 && all[0].getParameterCount() == 0;
        CHECKS.holds("one constructor, public, of nothing", one && Modifier.isPublic(all[0].getModifiers()));
    }

    private static Set<String> publicNames() {
        Set<String> names = new HashSet<>();
        for (String method : METHODS) {
            names.add(method.substring(method.indexOf(' ') + 1, method.indexOf('(')));
        }
        return names;
    }

    private static void methods() {
        Set<String> found = new TreeSet<>();
        for (Method method : OthersHands.class.getDeclaredMethods()) {
            if (Modifier.isPublic(method.getModifiers())) {
                found.add(signature(method));
                CHECKS.holds(method + " is of the object", !Modifier.isStatic(method.getModifiers()));
            } else {
                CHECKS.holds(method + " is private", Modifier.isPrivate(method.getModifiers()));
                CHECKS.holds(method + " has a name of its own", !publicNames().contains(method.getName()));
            }
        }
        CHECKS.holds("the methods are " + found, found.equals(Set.of(METHODS)));
    }

    private static String signature(Method method) {
        StringBuilder all = new StringBuilder();
        all.append(method.getReturnType()).append(' ').append(method.getName()).append('(');
        for (int i = 0; i < method.getParameterCount(); i++) {
            all.append(i == 0 ? "" : ",").append(method.getParameterTypes()[i]);
        }
        return all.append(')').toString();
    }

    private static void inner(Class<?> inner) {
        int modifiers = inner.getModifiers();
        boolean hidden = !Modifier.isPublic(modifiers) && !Modifier.isProtected(modifiers);
        CHECKS.holds(inner + " is static and hidden", hidden && Modifier.isStatic(modifiers));
        int fields = 0;
        for (Field field : inner.getDeclaredFields()) {
            boolean constant = Modifier.isStatic(field.getModifiers());
            CHECKS.holds(field + " is final if static", !constant || Modifier.isFinal(field.getModifiers()));
            fields += constant ? 0 : 1;
        }
        CHECKS.holds(inner + " has at most twenty fields", fields <= 20);
        for (Method method : inner.getDeclaredMethods()) {
            CHECKS.holds(method + " has a name of its own", !publicNames().contains(method.getName()));
            CHECKS.holds(method + " takes at most seven", method.getParameterCount() <= 7);
        }
    }

    private static void source() throws IOException {
        String path = System.getProperty("othershands.source", "src/main/java/OthersHands.java");
        String text = Files.readString(Path.of(path), StandardCharsets.ISO_8859_1);
        for (String word : WORDS_LEFT_OUT) {
            CHECKS.holds("the source is without " + word, !text.contains(word));
        }
        for (char sign : text.toCharArray()) {
            if (sign > 126 || sign < 32 && sign != '\n') {
                CHECKS.holds("the source has sign " + (int) sign, false);
            }
        }
        methodsAreShort(text);
    }

    /** A method begins at a line that ends in ") {" right inside a class, and ends at that depth's brace. */
    private static void methodsAreShort(String text) {
        String[] lines = text.split("\n");
        int longest = 0;
        for (int i = 0; i < lines.length; i++) {
            String line = lines[i];
            String indent = line.substring(0, line.length() - line.stripLeading().length());
            boolean begins = line.endsWith(") {") && (indent.length() == 4 || indent.length() == 8)
                && !line.strip().matches("(if|for|while|switch|else|\\}).*");
            if (begins) {
                int end = i;
                while (!lines[end].equals(indent + "}")) {
                    end++;
                }
                longest = Math.max(longest, end - i + 1);
            }
        }
        CHECKS.holds("methods were found, and the longest has " + longest + " lines", longest > 5 && longest <= 60);
    }
}
