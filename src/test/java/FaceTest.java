import java.lang.reflect.Constructor;
import java.lang.reflect.Field;
import java.lang.reflect.Method;
import java.lang.reflect.Modifier;
import java.util.ArrayList;
import java.util.Arrays;
import java.util.List;
import java.util.Set;
import java.util.TreeSet;

/** The public face: what the document lists, and nothing else that is not private. */
public final class FaceTest {
    private static final String[] DUE = {
        "int append(int int int int int)",
        "int parse(int) IllegalArgumentException",
        "int errorPosition()",
        "int size(int) IllegalArgumentException",
        "int find()",
        "int rate(int) IllegalArgumentException",
        "int player(int int) IndexOutOfBoundsException IllegalArgumentException",
        "int loaded(int int int) IndexOutOfBoundsException IllegalArgumentException",
        "int sizeOf(int int int) IndexOutOfBoundsException IllegalArgumentException",
        "int wouldChoose(int) IndexOutOfBoundsException",
        "int share(int) IndexOutOfBoundsException",
        "int forecast(int int) IndexOutOfBoundsException IllegalArgumentException",
        "int steadyQuality(int) IndexOutOfBoundsException",
        "int oracle(int int) IndexOutOfBoundsException",
        "int regret(int) IndexOutOfBoundsException",
        "int leastRate()",
        "double fairness()",
        "double meanQuality(int) IndexOutOfBoundsException",
        "boolean isWhole()",
        "int account(int) IllegalArgumentException",
        "int run(int) IllegalArgumentException IllegalStateException",
        "int setRule(int int) IndexOutOfBoundsException IllegalArgumentException",
        "int setWeight(int int) IndexOutOfBoundsException IllegalArgumentException",
        "int setRate(int int) IndexOutOfBoundsException IllegalArgumentException",
        "int quit(int) IndexOutOfBoundsException IllegalStateException",
        "int undo()",
        "boolean saveSnapshot(int) IndexOutOfBoundsException",
        "int restoreSnapshot(int) IndexOutOfBoundsException IllegalStateException",
    };

    public static void main(String[] args) {
        Checks.due("the class is public and final", Modifier.PUBLIC | Modifier.FINAL, () -> SharedLink.class.getModifiers());
        Checks.due("NONE", -1, () -> SharedLink.NONE);
        methods();
        rest();
        Checks.end("FaceTest");
    }

    private static void methods() {
        Set<String> found = new TreeSet<>();
        Set<String> names = new TreeSet<>();
        List<String> hiding = new ArrayList<>();
        for (Method method : SharedLink.class.getDeclaredMethods()) {
            if (Modifier.isPublic(method.getModifiers())) {
                found.add(told(method));
                names.add(method.getName());
            } else if (!Modifier.isPrivate(method.getModifiers())) {
                hiding.add(method.getName());
            }
        }
        Checks.due("the public methods", new TreeSet<>(Arrays.asList(DUE)), () -> found);
        for (Method method : SharedLink.class.getDeclaredMethods()) {
            if (Modifier.isPrivate(method.getModifiers()) && names.contains(method.getName())) {
                hiding.add(method.getName());
            }
        }
        for (Class<?> inside : SharedLink.class.getDeclaredClasses()) {
            for (Method method : inside.getDeclaredMethods()) {
                if (Modifier.isPrivate(method.getModifiers()) && names.contains(method.getName())) {
                    hiding.add(inside.getSimpleName() + "." + method.getName());
                }
            }
        }
        Checks.due("methods that are neither public nor private, or bear a public name", "[]", () -> hiding);
    }

    private static void rest() {
        List<String> open = new ArrayList<>();
        for (Field field : SharedLink.class.getDeclaredFields()) {
            if (!Modifier.isPrivate(field.getModifiers())) {
                open.add(Modifier.toString(field.getModifiers()) + " " + field.getType() + " " + field.getName());
            }
        }
        Checks.due("the fields that are not private", "[public static final int NONE]", () -> open);
        for (Constructor<?> constructor : SharedLink.class.getDeclaredConstructors()) {
            Checks.due("the constructor", "public SharedLink()", () -> constructor.toString());
        }
        for (Class<?> inside : SharedLink.class.getDeclaredClasses()) {
            int modifiers = inside.getModifiers();
            Checks.due(inside + " is static and not public", true,
                    () -> Modifier.isStatic(modifiers) && !Modifier.isPublic(modifiers) && !Modifier.isProtected(modifiers));
        }
    }

    private static String told(Method method) {
        StringBuilder text = new StringBuilder();
        text.append(method.getReturnType()).append(' ').append(method.getName()).append('(');
        for (int i = 0; i < method.getParameterCount(); i++) {
            text.append(i == 0 ? "" : " ").append(method.getParameterTypes()[i]);
        }
        text.append(')');
        for (Class<?> thrown : method.getExceptionTypes()) {
            text.append(' ').append(thrown.getSimpleName());
        }
        return text.toString();
    }
}
