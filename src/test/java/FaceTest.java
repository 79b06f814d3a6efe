import java.lang.reflect.Constructor;
import java.lang.reflect.Field;
import java.lang.reflect.Method;
import java.lang.reflect.Modifier;
import java.util.ArrayList;
import java.util.Arrays;
import java.util.List;
import java.util.TreeSet;

/** The face of the class is that of the document, and nothing else of it can be seen. */
public final class FaceTest {
    private static final Due due = new Due("FaceTest");
    private static final String[] METHODS = {
        "sheet int int int", "set int int int", "copy int int int int int", "drop int", "put int int int",
        "take int int", "told int int", "round", "seal int int", "feed long int", "plan", "fault", "proof int int",
        "answer int int", "write int int int", "check int int int int int", "why", "read int",
        "fewer int int int int", "forged int int", "kind int", "as int int", "ask int int", "trace int", "count int",
        "status"};

    private static String told(Method method) {
        StringBuilder text = new StringBuilder(method.getName());
        for (Class<?> type : method.getParameterTypes()) {
            text.append(' ').append(type.getName());
        }
        return text.toString();
    }

    private static void methods() {
        TreeSet<String> seen = new TreeSet<>();
        TreeSet<String> names = new TreeSet<>();
        for (Method method : ProvenRows.class.getDeclaredMethods()) {
            if (!Modifier.isPrivate(method.getModifiers())) {
                seen.add(told(method));
                names.add(method.getName());
                due.is("public " + method, Modifier.isPublic(method.getModifiers()) ? 1 : 0, 1);
                due.is("int " + method, method.getReturnType() == int.class ? 1 : 0, 1);
            }
        }
        TreeSet<String> want = new TreeSet<>(Arrays.asList(METHODS));
        due.is("methods " + seen, seen.equals(want) ? 1 : 0, 1);
        List<Class<?>> all = new ArrayList<>(Arrays.asList(ProvenRows.class.getDeclaredClasses()));
        all.add(ProvenRows.class);
        for (Class<?> each : all) {
            for (Method method : each.getDeclaredMethods()) {
                if (Modifier.isPrivate(method.getModifiers())) {
                    due.is("a name of the face: " + method, names.contains(method.getName()) ? 1 : 0, 0);
                }
                due.is("parameters of " + method, method.getParameterCount() <= 7 ? 1 : 0, 1);
            }
        }
    }

    /** How many it has beside its constants. */
    private static long fields(Class<?> each) {
        return Arrays.stream(each.getDeclaredFields()).filter(field -> !Modifier.isStatic(field.getModifiers())).count();
    }

    private static void members() {
        due.is("final", Modifier.isFinal(ProvenRows.class.getModifiers()) ? 1 : 0, 1);
        Constructor<?>[] made = ProvenRows.class.getDeclaredConstructors();
        due.is("constructors", made.length, 1);
        due.is("its parameters", made[0].getParameterCount(), 0);
        TreeSet<String> constants = new TreeSet<>();
        for (Field field : ProvenRows.class.getDeclaredFields()) {
            if (!Modifier.isPrivate(field.getModifiers())) {
                constants.add(field.getName());
            }
        }
        due.is("constants " + constants, constants.equals(new TreeSet<>(List.of("NONE", "BAD", "STATE", "FULL"))) ? 1 : 0, 1);
        due.is("NONE", ProvenRows.NONE, -1000000);
        due.is("BAD", ProvenRows.BAD, -1000001);
        due.is("STATE", ProvenRows.STATE, -1000002);
        due.is("FULL", ProvenRows.FULL, -1000003);
        due.isTrue("at most 20 fields", fields(ProvenRows.class) <= 20);
        Class<?>[] inside = ProvenRows.class.getDeclaredClasses();
        due.is("classes inside", inside.length <= 11 ? 1 : 0, 1);
        for (Class<?> each : inside) {
            due.is("private, static: " + each, Modifier.isPrivate(each.getModifiers()) && Modifier.isStatic(each.getModifiers()) ? 1 : 0, 1);
            due.isTrue("at most 20 fields: " + each, fields(each) <= 20);
            for (Field field : each.getDeclaredFields()) {
                boolean bound = !Modifier.isStatic(field.getModifiers()) || Modifier.isFinal(field.getModifiers());
                due.is("static fields are final: " + field, bound ? 1 : 0, 1);
            }
        }
    }

    public static void main(String[] args) {
        methods();
        members();
        due.end();
    }
}
