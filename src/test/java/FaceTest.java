import java.lang.reflect.Array;
import java.lang.reflect.Constructor;
import java.lang.reflect.Field;
import java.lang.reflect.Method;
import java.lang.reflect.Modifier;
import java.util.Arrays;
import java.util.Collections;
import java.util.IdentityHashMap;
import java.util.Set;
import java.util.TreeSet;

/** The class's face and those rules of LANGUAGE.md that can be seen in the compiled class. */
public final class FaceTest {
    private static final String[] FACE = {
        "boolean bind(int, int, int)", "boolean drop()", "boolean seal()", "boolean start(int, int)",
        "int code(int, int, int, int)", "int depth()", "int flips()", "int grey()",
        "int kind(int, int, int)", "int kindAt(int, int)", "int live()", "int method(int)",
        "int number(int)", "int result()", "int run(int)", "int shown(int)", "int state()",
        "int used()", "int work()"
    };
    // A run may make some hundreds of machines: each must leave room for the others.
    private static final int MOST_ELEMENTS = 8000;

    private static final Checks CHECKS = new Checks();

    private FaceTest() {
    }

    public static void main(String[] args) throws ReflectiveOperationException {
        publicFace();
        nothingElseIsSeen();
        classesInside();
        sizeOfAMachine();
        CHECKS.end();
    }

    private static void publicFace() {
        CHECKS.about("the face");
        Class<?> face = ReadBarrierMachine.class;
        CHECKS.due("modifiers", face.getModifiers(), Modifier.PUBLIC | Modifier.FINAL);
        TreeSet<String> found = new TreeSet<>();
        for (Method method : face.getDeclaredMethods()) {
            if (!Modifier.isPrivate(method.getModifiers())) {
                CHECKS.due("modifiers of " + method.getName(), method.getModifiers(), Modifier.PUBLIC);
                found.add(textOf(method));
            }
        }
        CHECKS.due("methods", String.join("; ", found), String.join("; ", FACE));
        Constructor<?>[] constructors = face.getDeclaredConstructors();
        CHECKS.due("constructors", constructors.length, 1);
        CHECKS.due("the constructor", Arrays.toString(constructors[0].getParameterTypes()), "[int, int]");
        CHECKS.due("it is public", constructors[0].getModifiers(), Modifier.PUBLIC);
    }

    private static String textOf(Method method) {
        StringBuilder text = new StringBuilder();
        for (Class<?> type : method.getParameterTypes()) {
            text.append(text.length() == 0 ? "" : ", ").append(type);
        }
        return method.getReturnType() + " " + method.getName() + "(" + text + ")";
    }

    private static void nothingElseIsSeen() {
        CHECKS.about("private members");
        TreeSet<String> publicNames = new TreeSet<>();
        for (Method method : ReadBarrierMachine.class.getMethods()) {
            publicNames.add(method.getName());
        }
        for (Method method : ReadBarrierMachine.class.getDeclaredMethods()) {
            if (Modifier.isPrivate(method.getModifiers())) {
                CHECKS.due("no public name: " + method.getName(), publicNames.contains(method.getName()), false);
            }
            CHECKS.due("parameters of " + method.getName(), method.getParameterCount() <= 7, true);
        }
        for (Field field : ReadBarrierMachine.class.getDeclaredFields()) {
            CHECKS.due("private: " + field.getName(), Modifier.isPrivate(field.getModifiers()), true);
        }
        checkFields(ReadBarrierMachine.class);
    }

    private static void checkFields(Class<?> owner) {
        int fields = 0;
        for (Field field : owner.getDeclaredFields()) {
            if (Modifier.isStatic(field.getModifiers())) {
                CHECKS.due("final: " + field.getName(), Modifier.isFinal(field.getModifiers()), true);
            } else {
                fields++;
            }
        }
        CHECKS.due("some twenty fields in " + owner.getName(), fields <= 22, true);
    }

    private static void classesInside() {
        CHECKS.about("classes inside");
        Class<?>[] inside = ReadBarrierMachine.class.getDeclaredClasses();
        CHECKS.due("not many", inside.length <= 12, true);
        for (Class<?> one : inside) {
            int modifiers = one.getModifiers();
            boolean isSeen = Modifier.isPublic(modifiers) || Modifier.isProtected(modifiers);
            CHECKS.due("static: " + one.getName(), Modifier.isStatic(modifiers), true);
            CHECKS.due("hidden: " + one.getName(), isSeen, false);
            checkFields(one);
        }
    }

    private static void sizeOfAMachine() throws ReflectiveOperationException {
        CHECKS.about("room that a machine takes");
        ReadBarrierMachine x = Lines.machine(120, 8);
        int m = Lines.method(x, -1, Lines.make(0, 2), Lines.show(0), Lines.jump(0));
        due(x, "new");
        x.start(m, 5);
        for (int i = 0; i < 400; i++) {
            x.run(200);
        }
        due(x, "used for long");
    }

    private static void due(ReadBarrierMachine x, String name) throws ReflectiveOperationException {
        int size = sizeOf(x, Collections.newSetFromMap(new IdentityHashMap<>()));
        System.out.println(name + ", a machine has " + size + " fields and elements");
        CHECKS.due(name + ": small enough", size <= MOST_ELEMENTS, true);
    }

    /** Fields and elements of the object and of all that it holds, the library's own left out. */
    private static int sizeOf(Object object, Set<Object> seen) throws ReflectiveOperationException {
        if (object == null || !seen.add(object)) {
            return 0;
        }
        if (object.getClass().isArray()) {
            return sizeOfArray(object, seen);
        }
        int size = 1;
        if (object.getClass().getClassLoader() != ReadBarrierMachine.class.getClassLoader()) {
            return size;
        }
        for (Field field : object.getClass().getDeclaredFields()) {
            if (!Modifier.isStatic(field.getModifiers())) {
                field.setAccessible(true);
                size += field.getType().isPrimitive() ? 1 : 1 + sizeOf(field.get(object), seen);
            }
        }
        return size;
    }

    private static int sizeOfArray(Object array, Set<Object> seen) throws ReflectiveOperationException {
        int size = Array.getLength(array);
        if (array instanceof Object[] held) {
            for (Object one : held) {
                size += sizeOf(one, seen);
            }
        }
        return size;
    }
}
