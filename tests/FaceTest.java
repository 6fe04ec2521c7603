import java.lang.reflect.Constructor;
import java.lang.reflect.Field;
import java.lang.reflect.Method;
import java.lang.reflect.Modifier;
import java.util.Arrays;
import java.util.TreeSet;

/** The face: just the document's public members, and no other that is not private, but for classes inside. */
public final class FaceTest {
    private static final String[] PUBLIC = {
        "public abilities(long): int",
        "public bears(int): int",
        "public check(int): int",
        "public element(long): int",
        "public field(long): int",
        "public function(int): int",
        "public height(int): int",
        "public instruction(int, int, int): int",
        "public list(int, long): int",
        "public new()",
        "public origins(int, int): long",
        "public place(): int",
        "public static final BAD: int",
        "public static final FULL: int",
        "public static final NO: int",
        "public structure(int): int",
        "public there(int, int): int"};
    private static final int MOST_FIELDS = 20;
    private static final int MOST_PARAMETERS = 7;

    public static void main(String[] args) {
        TreeSet<String> due = new TreeSet<>(Arrays.asList(PUBLIC));
        TreeSet<String> got = new TreeSet<>();
        for (Field field : AbilityChecker.class.getDeclaredFields()) {
            add(got, field.getModifiers(), field.getName() + ": " + field.getType().getName());
        }
        for (Constructor<?> constructor : AbilityChecker.class.getDeclaredConstructors()) {
            add(got, constructor.getModifiers(), "new" + types(constructor.getParameterTypes()));
        }
        for (Method method : AbilityChecker.class.getDeclaredMethods()) {
            String told = method.getName() + types(method.getParameterTypes()) + ": " + method.getReturnType().getName();
            add(got, method.getModifiers(), told);
        }
        Due.due("the face " + got + " is the document's", got.equals(due) ? 1 : 0, 1);
        int modifiers = AbilityChecker.class.getModifiers();
        Due.due("public and final", modifiers, Modifier.PUBLIC | Modifier.FINAL);
        for (Class<?> inside : AbilityChecker.class.getDeclaredClasses()) {
            boolean right = Modifier.isStatic(inside.getModifiers()) && !Modifier.isPublic(inside.getModifiers());
            Due.due(inside.getName() + " is static and not public", right ? 1 : 0, 1);
            keepsTheRules(inside);
        }
        keepsTheRules(AbilityChecker.class);
        Due.end();
    }

    /** Of LANGUAGE.md: rule 1 (names), 5 (static fields) and 11 (parameters, fields beside the constants). */
    private static void keepsTheRules(Class<?> one) {
        int fields = 0;
        for (Field field : one.getDeclaredFields()) {
            int modifiers = field.getModifiers();
            boolean isConstant = Modifier.isStatic(modifiers);
            fields += isConstant ? 0 : 1;
            boolean right = !isConstant || (Modifier.isFinal(modifiers) && field.getType().isPrimitive());
            Due.due(one.getName() + "." + field.getName() + " is a constant or no static field", right ? 1 : 0, 1);
        }
        Due.due(one.getName() + " has too many fields", fields > MOST_FIELDS ? fields : 0, 0);
        for (Method method : one.getDeclaredMethods()) {
            String name = one.getName() + "." + method.getName();
            int parameters = method.getParameterCount();
            Due.due(name + " has too many parameters", parameters > MOST_PARAMETERS ? parameters : 0, 0);
            boolean isTwice = !Modifier.isPublic(method.getModifiers()) && isOfTheFace(method.getName());
            Due.due(name + " bears the name of a public one", isTwice ? 1 : 0, 0);
        }
    }

    private static boolean isOfTheFace(String name) {
        for (String told : PUBLIC) {
            if (told.startsWith("public " + name + "(")) {
                return true;
            }
        }
        return false;
    }

    private static void add(TreeSet<String> got, int modifiers, String told) {
        if (!Modifier.isPrivate(modifiers)) {
            got.add(Modifier.toString(modifiers) + " " + told);
        }
    }

    private static String types(Class<?>[] types) {
        StringBuilder told = new StringBuilder("(");
        for (Class<?> type : types) {
            told.append(told.length() > 1 ? ", " : "").append(type.getName());
        }
        return told.append(")").toString();
    }
}
