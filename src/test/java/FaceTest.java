import java.lang.reflect.Constructor;
import java.lang.reflect.Field;
import java.lang.reflect.Method;
import java.lang.reflect.Modifier;
import java.util.Arrays;
import java.util.Set;
import java.util.TreeSet;

/** The public face is the document's and no more (LANGUAGE.md, rule 1; static fields by rule 5). */
public final class FaceTest {
    private static final Check CHECK = new Check("FaceTest");

    public static void main(String[] args) {
        Set<String> due = new TreeSet<>(Arrays.asList(
                "int key(long, long)", "int remote(byte, boolean)", "long counter(int)", "int lock(int)",
                "int learn(int, int, int)", "int erase(int)", "int field(int, long, long, long)",
                "int start(int, long)", "int crash()", "int alarm(int, long)", "int battery(int)",
                "byte octet(int) throws ArrayIndexOutOfBoundsException", "int state(int)"));
        Set<String> got = new TreeSet<>();
        Set<String> names = new TreeSet<>();
        for (Method m : DoorKeys.class.getDeclaredMethods()) {
            if (!Modifier.isPrivate(m.getModifiers())) {
                got.add(described(m));
                names.add(m.getName());
                CHECK.due(m.getName() + " is public", Modifier.isPublic(m.getModifiers()) ? 1 : 0, 1);
            }
        }
        if (!due.equals(got)) {
            System.out.println("FaceTest: methods are " + got + ", due are " + due);
        }
        CHECK.due("the methods are the document's", due.equals(got) ? 1 : 0, 1);
        CHECK.due("the class is public and final", DoorKeys.class.getModifiers(), Modifier.PUBLIC | Modifier.FINAL);
        constructors();
        noPrivateNamesakes(DoorKeys.class, names);
        fields(DoorKeys.class, true);
        for (Class<?> inside : DoorKeys.class.getDeclaredClasses()) {
            CHECK.due(inside.getName() + " is not public", inside.getModifiers() & (Modifier.PUBLIC | Modifier.PROTECTED), 0);
            CHECK.due(inside.getName() + " is static", Modifier.isStatic(inside.getModifiers()) ? 1 : 0, 1);
            noPrivateNamesakes(inside, names);
            fields(inside, false);
        }
        CHECK.end();
    }

    private static String described(Method m) {
        StringBuilder text = new StringBuilder(m.getReturnType() + " " + m.getName() + "(");
        for (int i = 0; i < m.getParameterCount(); i++) {
            text.append(i == 0 ? "" : ", ").append(m.getParameterTypes()[i]);
        }
        text.append(")");
        for (Class<?> thrown : m.getExceptionTypes()) {
            text.append(" throws ").append(thrown.getSimpleName());
        }
        return text.toString();
    }

    private static void constructors() {
        Constructor<?>[] all = DoorKeys.class.getDeclaredConstructors();
        CHECK.due("constructors", all.length, 1);
        CHECK.due("it is public", Modifier.isPublic(all[0].getModifiers()) ? 1 : 0, 1);
        CHECK.due("it takes an int", Arrays.equals(all[0].getParameterTypes(), new Class<?>[] {int.class}) ? 1 : 0, 1);
        CHECK.due("it throws nothing", all[0].getExceptionTypes().length, 0);
    }

    private static void noPrivateNamesakes(Class<?> c, Set<String> names) {
        for (Method m : c.getDeclaredMethods()) {
            boolean own = c == DoorKeys.class && Modifier.isPublic(m.getModifiers());
            CHECK.due(m + " has a name of its own", !own && names.contains(m.getName()) ? 1 : 0, 0);
        }
    }

    private static void fields(Class<?> c, boolean face) {
        for (Field f : c.getDeclaredFields()) {
            int modifiers = f.getModifiers();
            if (face) {
                CHECK.due(f + " is private", Modifier.isPrivate(modifiers) ? 1 : 0, 1);
            }
            if (Modifier.isStatic(modifiers)) {
                CHECK.due(f + " is final", Modifier.isFinal(modifiers) ? 1 : 0, 1);
            }
        }
    }
}
