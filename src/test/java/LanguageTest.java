import java.io.IOException;
import java.lang.reflect.Constructor;
import java.lang.reflect.Field;
import java.lang.reflect.Method;
import java.lang.reflect.Modifier;
import java.nio.file.Files;
import java.nio.file.Path;
import java.util.ArrayList;
import java.util.List;
import java.util.Set;
import java.util.TreeSet;
import java.util.regex.Matcher;
import java.util.regex.Pattern;

/** What LANGUAGE.md asks of the class, as far as it is easily looked at. */
public final class LanguageTest {
    private static final String FACE = "alone back began carry count crowd deepest facing feed forget ghosts glimpses "
            + "go hidden hold jolt last lonely look man minutes mirror odds oldest place raise rankFor read restore "
            + "rests seen shown smash soonest stand still tell together turn turned undo view visits willBe";
    private static final List<String> FORBIDDEN = List.of("throw", "try", "catch", "synchronized", "assert", "->",
            "::", "import", "static {", "@");

    private LanguageTest() {
    }

    private static void face() {
        Set<String> open = new TreeSet<>();
        Set<String> hidden = new TreeSet<>();
        List<Class<?>> classes = new ArrayList<>(List.of(LateMirrors.class.getDeclaredClasses()));
        for (Class<?> inner : classes) {
            Checks.due(inner + " is static", true, Modifier.isStatic(inner.getModifiers()));
            for (Method method : inner.getDeclaredMethods()) {
                hidden.add(method.getName());
            }
        }
        Checks.due("some twelve classes", true, classes.size() <= 12);
        for (Method method : LateMirrors.class.getDeclaredMethods()) {
            boolean isPublic = Modifier.isPublic(method.getModifiers());
            Checks.due(method + " is public or private", true, isPublic || Modifier.isPrivate(method.getModifiers()));
            (isPublic ? open : hidden).add(method.getName());
            Checks.due(method + " takes seven at most", true, method.getParameterCount() <= 7);
        }
        Checks.due("the face " + open, true, String.join(" ", open).equals(FACE));
        hidden.retainAll(open);
        Checks.due("names of the face that others bear: " + hidden, true, hidden.isEmpty());
        for (Field field : LateMirrors.class.getDeclaredFields()) {
            boolean told = field.getName().equals("NONE");
            Checks.due(field + " is hidden", true, told || Modifier.isPrivate(field.getModifiers()));
            boolean lasting = !Modifier.isStatic(field.getModifiers()) || Modifier.isFinal(field.getModifiers());
            Checks.due(field + " is final if it is static", true, lasting);
        }
        Constructor<?>[] constructors = LateMirrors.class.getDeclaredConstructors();
        Checks.due("one constructor", 1, constructors.length);
        Checks.due("the class is final", true, Modifier.isFinal(LateMirrors.class.getModifiers()));
    }

    private static void source() throws IOException {
        String source = Files.readString(Path.of("src/main/java/LateMirrors.java"));
        String code = source.replaceAll("(?s)/\\*.*?\\*/", "").replaceAll("//[^\n]*", "");
        for (String word : FORBIDDEN) {
            String pattern = Character.isLetter(word.charAt(0)) ? "\\b" + Pattern.quote(word) : Pattern.quote(word);
            Checks.due("no " + word, false, Pattern.compile(pattern).matcher(code).find());
        }
        Matcher method = Pattern.compile("(?m)^( {4,8})(?:public|private)[^=;\n]*\\([^;\n]*\\{\n(?s:.*?)^\\1\\}").matcher(code);
        int methods = 0;
        while (method.find()) {
            methods++;
            long lines = method.group().lines().count();
            Checks.due("some sixty lines at most: " + method.group().lines().findFirst().orElse(""), true, lines <= 60);
        }
        Checks.due("methods were found", true, methods > 100);
    }

    public static void main(String[] args) throws IOException {
        face();
        source();
        Checks.end();
    }
}
