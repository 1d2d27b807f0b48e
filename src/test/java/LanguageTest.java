import java.io.IOException;
import java.lang.reflect.Constructor;
import java.lang.reflect.Field;
import java.lang.reflect.Method;
import java.lang.reflect.Modifier;
import java.nio.file.Files;
import java.nio.file.Path;
import java.util.ArrayList;
import java.util.List;
import java.util.Set;
import java.util.TreeSet;
import java.util.regex.Matcher;
import java.util.regex.Pattern;

/** What LANGUAGE.md asks of the class, as far as it is easily looked at. */
public final class LanguageTest {
    private static final String FACE = "alone back began carry count crowd deepest facing feed forget ghosts glimpses "
            + "go hidden hold jolt last lonely look man minutes mirror odds oldest place raise rankFor read restore "
            + "rests seen shown smash soonest stand still tell together turn turned undo view visits willBe";
    private static final List<String> FORBIDDEN = List.of("throw", "try", "catch", "synchronized", "assert", "->",
            "::", "import", "static {", "@");

    private LanguageTest() {
    }

    private static void face() {
        Set<String> open = new TreeSet<>();
        Set<String> hidden = new TreeSet<>();
        List<Class<?>> classes = new ArrayList<>(List.of(LateMirrors.class.getDeclaredClasses()));
        for (Class<?> inner : classes) {
            Checks.due(inner + " is static", true, Modifier.isStatic(inner.getModifiers()));
            for (Method method : inner.getDeclaredMethods()) {
                hidden.add(method.getName());
            }
        }
        Checks.due("some twelve classes", true, classes.size() <= 12);
        for (Method method : LateMirrors.class.getDeclaredMethods()) {
            boolean isPublic = Modifier.isPublic(method.getModifiers());
            Checks.due(method + " is public or private", true, isPublic || Modifier.isPrivate(method.getModifiers()));
            (isPublic ? open : hidden).add(method.getName());
            Checks.due(method + " takes seven at most", true, method.getParameterCount() <= 7);
        }
        Checks.due("the face " + open, true, String.join(" ", open).equals(FACE));
        hidden.retainAll(open);
        Checks.due("names of the face that others bear: " + hidden, true, hidden.isEmpty());
        for (Field field : LateMirrors.class.getDeclaredFields()) {
            boolean told = field.getName().equals("NONE");
            Checks.due(field + " is hidden", true, told || Modifier.isPrivate(field.getModifiers()));
            boolean lasting = !Modifier.isStatic(field.getModifiers()) || Modifier.isFinal(field.getModifiers());
            Checks.due(field + " is final if it is static", true, lasting);
        }
        Constructor<?>[] constructors = LateMirrors.class.getDeclaredConstructors();
        Checks.due("one constructor", 1, constructors.length);
        Checks.due("the class is final", true, Modifier.isFinal(LateMirrors.class.getModifiers()));
    }

    /** Every line of the document's face is there, and nothing public beside them. */
    private static void faceOfDocument() throws IOException {
        String document = Files.readString(Path.of("../shared/DOC.md"));
        Set<String> due = new TreeSet<>();
        Matcher line = Pattern.compile("(?m)^ {4}public (.*);$").matcher(document);
        while (line.find()) {
            due.add(line.group(1).replaceAll(" \\w+(?=[,)])", ""));
        }
        Set<String> got = new TreeSet<>();
        for (Method method : LateMirrors.class.getMethods()) {
            if (method.getDeclaringClass() == LateMirrors.class) {
                got.add(method.getReturnType() + " " + method.getName() + types(method.getParameterTypes()));
            }
        }
        for (Constructor<?> constructor : LateMirrors.class.getConstructors()) {
            got.add(constructor.getName() + types(constructor.getParameterTypes()));
        }
        for (Field field : LateMirrors.class.getFields()) {
            got.add(Modifier.toString(field.getModifiers()).replace("public ", "") + " " + field.getType() + " "
                    + field.getName() + " = -1");
        }
        Checks.due("NONE", -1, LateMirrors.NONE);
        Checks.due("the lines of the document's face", 46, due.size());
        for (String one : due) {
            Checks.due("the face has " + one, true, got.contains(one));
        }
        for (String one : got) {
            Checks.due("the document has " + one, true, due.contains(one));
        }
    }

    private static String types(Class<?>[] types) {
        StringBuilder told = new StringBuilder("(");
        for (Class<?> type : types) {
            told.append(told.length() > 1 ? ", " : "").append(type);
        }
        return told.append(')').toString();
    }

    private static void source() throws IOException {
        String source = Files.readString(Path.of("src/main/java/LateMirrors.java"));
        String code = source.replaceAll("(?s)/\\*.*?\\*/", "").replaceAll("//[^\n]*", "");
        for (String word : FORBIDDEN) {
            String pattern = Character.isLetter(word.charAt(0)) ? "\\b" + Pattern.quote(word) : Pattern.quote(word);
            Checks.due("no " + word, false, Pattern.compile(pattern).matcher(code).find());
        }
        Matcher method = Pattern.compile("(?m)^( {4,8})(?:public|private)[^=;\n]*\\([^;\n]*\\{\n(?s:.*?)^\\1\\}").matcher(code);
        int methods = 0;
        while (method.find()) {
            methods++;
            long lines = method.group().lines().count();
            Checks.due("some sixty lines at most: " + method.group().lines().findFirst().orElse(""), true, lines <= 60);
        }
        Checks.due("methods were found", true, methods > 100);
    }

    public static void main(String[] args) throws IOException {
        face();
        faceOfDocument();
        source();
        Checks.end();
    }
}
