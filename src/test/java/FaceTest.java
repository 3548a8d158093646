import java.lang.reflect.Constructor;
import java.lang.reflect.Field;
import java.lang.reflect.Method;
import java.lang.reflect.Modifier;
import java.util.ArrayList;
import java.util.List;
import java.util.Set;
import java.util.TreeSet;

/** The public face, member by member: nothing missing, and nothing beside it. */
public final class FaceTest {
    private static final String[] METHODS = {
        "int write(int) IllegalArgumentException IllegalStateException",
        "int wipe()",
        "int numberAt(int) IndexOutOfBoundsException",
        "int put(int,int,int) IndexOutOfBoundsException IllegalArgumentException IllegalStateException",
        "int remove(int) IndexOutOfBoundsException",
        "int change(int,int) IndexOutOfBoundsException IllegalArgumentException IllegalStateException",
        "int get(int) IndexOutOfBoundsException",
        "int next(int) IndexOutOfBoundsException",
        "int bulk(int,int) IndexOutOfBoundsException IllegalArgumentException",
        "int nextBySorting(int) IndexOutOfBoundsException",
        "int hide(int,int) IndexOutOfBoundsException IllegalStateException",
        "int seen(int) IndexOutOfBoundsException",
        "int sample(int) IndexOutOfBoundsException IllegalStateException",
        "int rate(int) IndexOutOfBoundsException IllegalStateException",
        "void setMarks(int,int,int) IndexOutOfBoundsException IllegalArgumentException IllegalStateException",
        "int restart(int) IndexOutOfBoundsException",
        "int pass(int) IllegalArgumentException IllegalStateException",
        "int traps()",
        "int trapOf(int) IndexOutOfBoundsException",
        "int trapAt(int) IndexOutOfBoundsException",
        "int repeats(int) IndexOutOfBoundsException",
        "int setNeighbour(int,int,int) IndexOutOfBoundsException IllegalArgumentException",
        "int reach(int) IndexOutOfBoundsException",
        "int halves()",
    };
    private static final String[] CONSTANTS = {"NONE", "GAUGE", "COUNTER", "NEITHER", "HIDDEN", "SHOWN"};

    public static void main(String[] args) {
        List<String> wrong = new ArrayList<>();
        Class<?> face = Managetree.class;
        if (face.getModifiers() != (Modifier.PUBLIC | Modifier.FINAL) || face.getSuperclass() != Object.class) {
            wrong.add("the class is not public, final and of Object");
        }
        compare(wrong, "methods", new TreeSet<>(List.of(METHODS)), openMethods(face));
        compare(wrong, "constants", new TreeSet<>(List.of(CONSTANTS)), openFields(face, wrong));
        compare(wrong, "constructors", Set.of("1 with 0 parameters"), constructors(face));
        checkNamesOfPrivateMethods(face, wrong);
        checkClassesInside(face, wrong);
        wrong.forEach(System.out::println);
        System.out.println(wrong.isEmpty() ? "the face is as due" : wrong.size() + " faults of the face");
        if (!wrong.isEmpty()) {
            System.exit(1);
        }
    }

    private static void compare(List<String> wrong, String what, Set<String> want, Set<String> got) {
        if (!want.equals(got)) {
            wrong.add(what + " are " + got + ", due are " + want);
        }
    }

    private static Set<String> openMethods(Class<?> face) {
        Set<String> found = new TreeSet<>();
        for (Method method : face.getDeclaredMethods()) {
            if (Modifier.isPrivate(method.getModifiers())) {
                continue;
            }
            String extra = method.getModifiers() == Modifier.PUBLIC ? "" : Modifier.toString(method.getModifiers()) + " ";
            StringBuilder text = new StringBuilder(extra + method.getReturnType() + " " + method.getName() + "(");
            for (int i = 0; i < method.getParameterCount(); i++) {
                text.append(i == 0 ? "" : ",").append(method.getParameterTypes()[i]);
            }
            text.append(")");
            for (Class<?> type : method.getExceptionTypes()) {
                text.append(" ").append(type.getSimpleName());
            }
            found.add(text.toString());
        }
        return found;
    }

    private static Set<String> openFields(Class<?> face, List<String> wrong) {
        Set<String> found = new TreeSet<>();
        for (Field field : face.getDeclaredFields()) {
            int modifiers = field.getModifiers();
            if (Modifier.isStatic(modifiers) && !Modifier.isFinal(modifiers)) {
                wrong.add("static and not final: " + field.getName());
            }
            if (Modifier.isPrivate(modifiers)) {
                continue;
            }
            boolean constant = modifiers == (Modifier.PUBLIC | Modifier.STATIC | Modifier.FINAL);
            found.add(constant && field.getType() == int.class ? field.getName() : field.toString());
        }
        return found;
    }

    private static Set<String> constructors(Class<?> face) {
        Set<String> found = new TreeSet<>();
        for (Constructor<?> constructor : face.getDeclaredConstructors()) {
            found.add(constructor.getModifiers() + " with " + constructor.getParameterCount() + " parameters");
        }
        return found;
    }

    private static void checkNamesOfPrivateMethods(Class<?> face, List<String> wrong) {
        Set<String> open = new TreeSet<>();
        for (Method method : face.getMethods()) {
            open.add(method.getName());
        }
        for (Method method : face.getDeclaredMethods()) {
            if (Modifier.isPrivate(method.getModifiers()) && open.contains(method.getName())) {
                wrong.add("private with a public name: " + method.getName());
            }
        }
    }

    private static void checkClassesInside(Class<?> face, List<String> wrong) {
        for (Class<?> inside : face.getDeclaredClasses()) {
            int modifiers = inside.getModifiers();
            if (!Modifier.isStatic(modifiers) || Modifier.isPublic(modifiers) || Modifier.isProtected(modifiers)) {
                wrong.add("not private or package-visible and static: " + inside.getName());
            }
        }
    }
}
