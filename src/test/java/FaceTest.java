import java.lang.reflect.Field;
import java.lang.reflect.Method;
import java.lang.reflect.Modifier;
import java.util.TreeSet;

/** The face is that of the document, and nothing else is seen from outside. */
public final class FaceTest {
    private static final String FACE = """
        int act(int, int, int)
        int agenda(int, int)
        int as(int, int)
        int book(int, int)
        int count(int)
        int done(int)
        int dues(int)
        int feed(int)
        int firm(int, int)
        int image()
        int looked()
        int matter(int, int)
        int net(int)
        int of(int, int)
        int on(int, int)
        int pass(int)
        int plan(int, int)
        int reopen(int)
        int row(int, int, int)
        int see(int, int, boolean)
        int shelve(int, boolean)
        int station()
        int talk(int)
        int tie(int, int, boolean)
        int told(int)
        int trace(int)
        int undo()
        int when(int)
        long mean(int)
        long odds(int, int, int)
        """;

    public static void main(String[] args) {
        Check check = new Check();
        TreeSet<String> seen = new TreeSet<>();
        TreeSet<String> names = new TreeSet<>();
        for (Method method : VerandaTalk.class.getDeclaredMethods()) {
            if (!Modifier.isPrivate(method.getModifiers()) && !method.isSynthetic()) {
                StringBuilder text = new StringBuilder(method.getReturnType() + " " + method.getName() + "(");
                for (Class<?> type : method.getParameterTypes()) {
                    text.append(text.charAt(text.length() - 1) == '(' ? "" : ", ").append(type);
                }
                seen.add(text + ")");
                names.add(method.getName());
            }
        }
        String all = String.join("\n", seen) + "\n";
        check.same("methods of the face\n" + all, all.equals(FACE) ? 1 : 0, 1);
        for (Class<?> inside : VerandaTalk.class.getDeclaredClasses()) {
            check.same(inside + " is static and not public",
                inside.getModifiers() & (Modifier.STATIC | Modifier.PUBLIC | Modifier.PROTECTED), Modifier.STATIC);
            noneNamed(check, inside, names);
        }
        for (Method method : VerandaTalk.class.getDeclaredMethods()) {
            if (Modifier.isPrivate(method.getModifiers())) {
                check.same("no private " + method, names.contains(method.getName()) ? 1 : 0, 0);
            }
        }
        int constants = 0;
        for (Field field : VerandaTalk.class.getDeclaredFields()) {
            if (!Modifier.isPrivate(field.getModifiers())) {
                check.same(field + " is a constant", field.getModifiers(),
                    Modifier.PUBLIC | Modifier.STATIC | Modifier.FINAL);
                constants++;
            }
        }
        check.same("constants", constants, 5);
        check.same("NONE", VerandaTalk.NONE, -1);
        check.same("BAD", VerandaTalk.BAD, -2);
        check.same("STATE", VerandaTalk.STATE, -3);
        check.same("FULL", VerandaTalk.FULL, -4);
        check.same("NO", VerandaTalk.NO, Long.MIN_VALUE);
        check.same("constructors", VerandaTalk.class.getConstructors().length, 1);
        check.same("final", Modifier.isFinal(VerandaTalk.class.getModifiers()) ? 1 : 0, 1);
        check.end();
    }

    private static void noneNamed(Check check, Class<?> inside, TreeSet<String> names) {
        for (Method method : inside.getDeclaredMethods()) {
            check.same("no other " + method, names.contains(method.getName()) ? 1 : 0, 0);
        }
    }
}
