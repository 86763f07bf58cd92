import java.lang.reflect.Constructor;
import java.lang.reflect.Field;
import java.lang.reflect.Method;
import java.lang.reflect.Modifier;
import java.util.Arrays;
import java.util.Set;
import java.util.TreeSet;

/** The class shows the document's face and nothing else (LANGUAGE.md, rules 1 and 5). */
public final class FaceTest {
    private static final String BOTH = " throws IllegalArgumentException IllegalStateException";
    private static final Set<String> FACE = new TreeSet<>(Arrays.asList(
            "int code(int, int)" + BOTH,
            "boolean share(int, int, int)",
            "int rule(int, int, int, boolean)" + BOTH,
            "int answer(int, int) throws IllegalArgumentException",
            "int question()",
            "int needed()",
            "int found()",
            "int why()",
            "int left(int)",
            "int emptied()",
            "int explain(int) throws IllegalArgumentException",
            "int precedent(int, int, int, int, int, int)" + BOTH,
            "boolean contradicts()",
            "boolean day(int)",
            "int count(int)"));

    private static String shown(Method method) {
        StringBuilder text = new StringBuilder();
        text.append(method.getReturnType().getSimpleName()).append(' ').append(method.getName()).append('(');
        for (Class<?> type : method.getParameterTypes()) {
            text.append(text.charAt(text.length() - 1) == '(' ? "" : ", ").append(type.getSimpleName());
        }
        text.append(')');
        Class<?>[] thrown = method.getExceptionTypes();
        if (thrown.length > 0) {
            text.append(" throws");
            for (Class<?> type : thrown) {
                text.append(' ').append(type.getSimpleName());
            }
        }
        return text.toString();
    }

    private static void methods(Checks checks) {
        Set<String> seen = new TreeSet<>();
        Set<String> publicNames = new TreeSet<>();
        for (Method method : ClassifyRules.class.getDeclaredMethods()) {
            if (!Modifier.isPrivate(method.getModifiers())) {
                seen.add(shown(method));
                publicNames.add(method.getName());
                checks.same(method + " is public", Modifier.isPublic(method.getModifiers()), true);
                checks.same(method + " is static", Modifier.isStatic(method.getModifiers()), false);
            }
        }
        checks.same("the methods", seen, FACE);
        for (Method method : ClassifyRules.class.getDeclaredMethods()) {
            if (Modifier.isPrivate(method.getModifiers())) {
                checks.same(method + " bears a public name", publicNames.contains(method.getName()), false);
            }
        }
    }

    private static void fields(Checks checks) {
        for (Field field : ClassifyRules.class.getDeclaredFields()) {
            boolean isNone = field.getName().equals("NONE");
            int modifiers = field.getModifiers();
            checks.same(field + " is private", Modifier.isPrivate(modifiers), !isNone);
            checks.same(field + " is public", Modifier.isPublic(modifiers), isNone);
            checks.same(field + " is static and not final",
                    Modifier.isStatic(modifiers) && !Modifier.isFinal(modifiers), false);
        }
        checks.same("NONE", ClassifyRules.NONE, -1);
    }

    private static void constructors(Checks checks) {
        Constructor<?>[] constructors = ClassifyRules.class.getDeclaredConstructors();
        checks.same("how many constructors", constructors.length, 1);
        checks.same("it is public", Modifier.isPublic(constructors[0].getModifiers()), true);
        checks.same("its parameters", constructors[0].getParameterCount(), 0);
    }

    public static void main(String[] args) {
        Checks checks = new Checks();
        int modifiers = ClassifyRules.class.getModifiers();
        checks.same("the class is public", Modifier.isPublic(modifiers), true);
        checks.same("the class is final", Modifier.isFinal(modifiers), true);
        methods(checks);
        fields(checks);
        constructors(checks);
        checks.end();
    }
}
