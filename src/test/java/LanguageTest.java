import java.io.IOException;
import java.lang.reflect.Executable;
import java.lang.reflect.Field;
import java.lang.reflect.Modifier;
import java.nio.file.Files;
import java.nio.file.Path;
import java.util.ArrayList;
import java.util.List;
import java.util.Set;
import java.util.TreeSet;
import java.util.regex.MatchResult;
import java.util.regex.Pattern;

/** What of ../shared/LANGUAGE.md can be read off the class and its text. */
public final class LanguageTest {
    private static final Path PROGRAM = Path.of("src/main/java/VerandaTalk.java");
    private static final Set<String> LIBRARY = Set.of("Math.min", "Math.max", "Math.abs", "Math.floorMod",
        "Math.floorDiv", "Integer.bitCount", "Integer.compare", "System.arraycopy", "Long.MIN_VALUE");
    private static final Set<String> TEXT_METHODS = Set.of("length", "charAt", "isEmpty", "equals", "indexOf",
        "substring", "toCharArray");
    private static final Set<String> CONSTANT_TYPES = Set.of("int", "long", "boolean", "char", "class java.lang.String",
        "class [I", "class [J", "class [C", "class [B");
    /** The document wants no exception. */
    private static final String[] NOT_THERE = {"import", "package", "synchronized", "assert", "throw", "throws", "try",
        "catch", "finally", "->", "::", "record", "var", "native", "volatile", "transient", "Object", "float",
        "double"};

    private final Check check = new Check();
    private final List<Class<?>> classes = new ArrayList<>();
    private final String text;
    private final TreeSet<String> methods = new TreeSet<>();

    private LanguageTest(String whole) {
        check.same("rule 4: signs that are not 1 to 127", whole.chars().filter(c -> c < 1 || c > 127).count(), 0);
        text = whole.replaceAll("'(\\\\.|[^'\\\\])'", "' '").replaceAll("\"[^\"]*\"", "\"\"")
            .replaceAll("(?s)/\\*.*?\\*/", "").replaceAll("//.*", "");
        classes.add(VerandaTalk.class);
        classes.addAll(List.of(VerandaTalk.class.getDeclaredClasses()));
        for (Class<?> one : classes) {
            for (Executable method : one.getDeclaredMethods()) {
                methods.add(method.getName());
            }
        }
    }

    public static void main(String[] args) throws IOException {
        LanguageTest test = new LanguageTest(Files.readString(PROGRAM));
        test.words();
        test.library();
        test.fields();
        test.sizes();
        test.recursion();
        test.check.end();
    }

    private List<MatchResult> found(String pattern) {
        return Pattern.compile(pattern).matcher(text).results().toList();
    }

    private void words() {
        for (String word : NOT_THERE) {
            String pattern = Character.isLetter(word.charAt(0)) ? "\\b" + word + "\\b" : Pattern.quote(word);
            check.same("rules 1 to 6, 10: no " + word, found(pattern).size(), 0);
        }
        check.same("rule 5: no static block", found("\\bstatic\\s*\\{").size(), 0);
        check.same("rule 10: no texts joined by +", found("\"\"\\s*\\+|\\+\\s*\"\"").size(), 0);
    }

    private void library() {
        TreeSet<String> own = new TreeSet<>(Set.of("String"));
        for (Class<?> one : classes) {
            own.add(one.getSimpleName());
        }
        for (MatchResult name : found("(?<![\\w.])[A-Z]\\w*[a-z]\\w*(\\.\\w+)?")) {
            String first = name.group().split("\\.")[0];
            boolean isListed = own.contains(first) || LIBRARY.contains(name.group());
            check.same("rule 4: " + name.group() + " is listed", isListed ? 1 : 0, 1);
        }
        for (MatchResult call : found("(\\w+)\\.(\\w+)\\(")) {
            boolean isListed = methods.contains(call.group(2)) || TEXT_METHODS.contains(call.group(2))
                || LIBRARY.contains(call.group(1) + "." + call.group(2));
            check.same("rule 4: " + call.group() + ") is listed", isListed ? 1 : 0, 1);
        }
    }

    private void fields() {
        for (Class<?> one : classes) {
            int many = 0;
            for (Field field : one.getDeclaredFields()) {
                boolean isStatic = Modifier.isStatic(field.getModifiers());
                many += isStatic ? 0 : 1;
                check.same("rule 5: " + field, isStatic && !isConstant(field) ? 0 : 1, 1);
                Class<?> type = field.getType().isArray() ? field.getType().componentType() : field.getType();
                boolean isOwn = type.isPrimitive() || type == String.class || classes.contains(type);
                check.same("rule 3: " + field, isOwn ? 1 : 0, 1);
            }
            check.same("rule 11: twenty fields at most in " + one, many <= 20 ? 1 : 0, 1);
        }
    }

    private static boolean isConstant(Field field) {
        return Modifier.isFinal(field.getModifiers()) && CONSTANT_TYPES.contains(field.getType().toString());
    }

    private void sizes() {
        check.same("rule 11: twelve classes at most", classes.size() <= 12 ? 1 : 0, 1);
        for (Class<?> one : classes) {
            List<Executable> all = new ArrayList<>(List.of(one.getDeclaredMethods()));
            all.addAll(List.of(one.getDeclaredConstructors()));
            for (Executable method : all) {
                check.same("rule 11: " + method, method.getParameterCount() <= 7 ? 1 : 0, 1);
            }
        }
        for (MatchResult method : bodies()) {
            check.same("rule 11: sixty lines at most: " + method.group(3), method.group().lines().count() <= 60 ? 1 : 0, 1);
        }
    }

    /** A method begins and ends at the same depth: 1 what stands ahead, 2 words, 3 its name, 4 its body. */
    private List<MatchResult> bodies() {
        return found("(?m)^( {4}| {8})([A-Za-z][\\w \\[\\]]*? )?(\\w+)\\([^()]*\\) \\{\\n((?:.*\\n)*?)\\1\\}$");
    }

    private void recursion() {
        TreeSet<String> found = new TreeSet<>();
        for (MatchResult method : bodies()) {
            found.add(method.group(3));
            boolean callsItself = Pattern.compile("(?<![.\\w])" + method.group(3) + "\\(").matcher(method.group(4)).find();
            boolean isPrivateStatic = ("" + method.group(2)).startsWith("private static ");
            check.same("rule 8: " + method.group(3) + " calls itself", callsItself && !isPrivateStatic ? 1 : 0, 0);
        }
        for (String method : methods) {
            check.same(method + " is found in the text", found.contains(method) ? 1 : 0, 1);
        }
    }
}
