import java.lang.reflect.Constructor;
import java.lang.reflect.Field;
import java.lang.reflect.Method;
import java.lang.reflect.Modifier;
import java.util.Arrays;
import java.util.TreeSet;

/** The public face: just what the document says, and nothing else that can be seen. */
final class FaceTest {
    private static final String[] FACE = {
        "int plate(int,int) IllegalArgumentException",
        "int request(int,int,int) IllegalArgumentException IllegalStateException",
        "int cancel(int) IndexOutOfBoundsException",
        "int set(int,int) IllegalArgumentException",
        "int pass(int) IllegalArgumentException IllegalStateException",
        "int finish() IllegalStateException",
        "int requestOf(int,int) IndexOutOfBoundsException IllegalArgumentException",
        "int requestAt(int) IllegalArgumentException",
        "int logged(int,int) IllegalArgumentException",
        "int arm(int) IllegalArgumentException",
        "int whole(int) IllegalArgumentException",
        "int target(int) IllegalArgumentException",
        "int readIn(int) IndexOutOfBoundsException",
        "int finishBy(int,int) IllegalArgumentException",
        "int bestWay()",
        "int heatIn(int) IllegalArgumentException",
        "int widest()",
        "int reason(int) IndexOutOfBoundsException",
        "int type(int) IllegalArgumentException IllegalStateException",
        "int clearCommands()",
        "int runCommands()",
        "int undo() IllegalStateException",
        "long digest()",
    };

    public static void main(String[] args) {
        TreeSet<String> want = new TreeSet<>(Arrays.asList(FACE));
        TreeSet<String> got = new TreeSet<>();
        TreeSet<String> names = new TreeSet<>();
        for (Method m : PlateArm.class.getDeclaredMethods()) {
            if (!Modifier.isPrivate(m.getModifiers())) {
                got.add(told(m));
                names.add(m.getName());
                Due.due(m.getName() + " is public alone", m.getModifiers(), Modifier.PUBLIC);
            }
        }
        Due.due("methods", got.toString(), want.toString());
        privateNames(PlateArm.class, names);
        fieldsAndConstructors();
        Due.due("NONE", PlateArm.NONE, -1);
        Due.due("class is public and final", PlateArm.class.getModifiers(),
                Modifier.PUBLIC | Modifier.FINAL);
        Due.end("FaceTest");
    }

    private static String told(Method m) {
        StringBuilder b = new StringBuilder(m.getReturnType().getName());
        b.append(' ').append(m.getName()).append('(');
        for (int i = 0; i < m.getParameterCount(); i++) {
            b.append(i == 0 ? "" : ",").append(m.getParameterTypes()[i].getName());
        }
        b.append(')');
        for (Class<?> e : m.getExceptionTypes()) {
            b.append(' ').append(e.getSimpleName());
        }
        return b.toString();
    }

    private static void privateNames(Class<?> outer, TreeSet<String> face) {
        for (Method m : outer.getDeclaredMethods()) {
            boolean hidden = Modifier.isPrivate(m.getModifiers()) || outer != PlateArm.class;
            Due.due("hidden method " + m.getName() + " bears a public name",
                    hidden && face.contains(m.getName()) ? 1 : 0, 0);
        }
        for (Class<?> inner : outer.getDeclaredClasses()) {
            Due.due(inner.getName() + " is static and not public",
                    Modifier.isStatic(inner.getModifiers())
                            && !Modifier.isPublic(inner.getModifiers()) ? 1 : 0, 1);
            privateNames(inner, face);
        }
    }

    private static void fieldsAndConstructors() {
        for (Field f : PlateArm.class.getDeclaredFields()) {
            boolean seen = !Modifier.isPrivate(f.getModifiers());
            Due.due("field " + f.getName() + " is seen", seen ? 1 : 0, f.getName().equals("NONE") ? 1 : 0);
            boolean changes = Modifier.isStatic(f.getModifiers()) && !Modifier.isFinal(f.getModifiers());
            Due.due("static field " + f.getName() + " changes", changes ? 1 : 0, 0);
        }
        Constructor<?>[] all = PlateArm.class.getDeclaredConstructors();
        Due.due("constructors", all.length, 1);
        Due.due("parameters of the constructor", all[0].getParameterCount(), 0);
        Due.due("constructor is public", all[0].getModifiers(), Modifier.PUBLIC);
    }
}
