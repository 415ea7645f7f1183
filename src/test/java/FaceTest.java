import java.lang.reflect.Constructor;
import java.lang.reflect.Field;
import java.lang.reflect.Method;
import java.lang.reflect.Modifier;
import java.util.Arrays;
import java.util.Set;
import java.util.TreeSet;

/** The public face of the document, and no other member that can be seen from outside (LANGUAGE.md, rules 1, 5, 11). */
public final class FaceTest {
    private static final String[] FACE = {
        "boolean lay 3", "boolean set 5", "int get 4", "int size 2", "int ways 1", "boolean span 4", "boolean beside 3",
        "boolean mix 5", "int turn 3", "int maps 2", "int bends 2", "int form 2", "int spans 3", "boolean like 2",
        "int rank 3", "int far 2", "int kind 2", "int roots 2", "int count 1",
    };

    public static void main(String[] args) {
        Check check = new Check();
        check.due("public and final", SpanLoom.class.getModifiers(), Modifier.PUBLIC | Modifier.FINAL);
        methods(check);
        constructors(check);
        fields(check, SpanLoom.class);
        for (Class<?> inside : SpanLoom.class.getDeclaredClasses()) {
            check.due(inside + " is static", Modifier.isStatic(inside.getModifiers()), true);
            check.due(inside + " is hidden", Modifier.isPublic(inside.getModifiers()), false);
            fields(check, inside);
            parameters(check, inside);
        }
        parameters(check, SpanLoom.class);
        check.due("at most twelve classes", SpanLoom.class.getDeclaredClasses().length < 12, true);
        check.end();
    }

    private static void methods(Check check) {
        Set<String> seen = new TreeSet<>();
        Set<String> names = new TreeSet<>();
        for (Method method : SpanLoom.class.getDeclaredMethods()) {
            if (Modifier.isPrivate(method.getModifiers())) {
                continue;
            }
            seen.add(method.getReturnType() + " " + method.getName() + " " + method.getParameterCount());
            names.add(method.getName());
            check.due(method + " is public alone", method.getModifiers(), Modifier.PUBLIC);
            for (Class<?> type : method.getParameterTypes()) {
                check.due(method + " takes int", type == int.class, true);
            }
        }
        check.due("methods of the face", seen.equals(new TreeSet<>(Arrays.asList(FACE))), true);
        for (Method method : SpanLoom.class.getDeclaredMethods()) {
            boolean hidden = Modifier.isPrivate(method.getModifiers());
            check.due(method + " has a name of its own", hidden && names.contains(method.getName()), false);
        }
    }

    private static void constructors(Check check) {
        Constructor<?>[] all = SpanLoom.class.getDeclaredConstructors();
        check.due("one constructor", all.length, 1);
        check.due("it is public", all[0].getModifiers(), Modifier.PUBLIC);
        check.due("it takes two ints", Arrays.equals(all[0].getParameterTypes(), new Class<?>[] {int.class, int.class}), true);
    }

    private static void fields(Check check, Class<?> type) {
        int held = 0;
        for (Field field : type.getDeclaredFields()) {
            int modifiers = field.getModifiers();
            if (Modifier.isStatic(modifiers)) {
                check.due(field + " is final", Modifier.isFinal(modifiers), true);
            } else {
                held++;
            }
            boolean face = type == SpanLoom.class && field.getName().equals("NONE");
            check.due(field + " is hidden", Modifier.isPrivate(modifiers), !face);
        }
        check.due(type + " has at most twenty fields", held <= 20, true);
    }

    private static void parameters(Check check, Class<?> type) {
        for (Method method : type.getDeclaredMethods()) {
            check.due(method + " takes at most seven", method.getParameterCount() <= 7, true);
        }
    }
}
