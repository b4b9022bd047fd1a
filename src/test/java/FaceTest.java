import java.lang.management.ManagementFactory;
import java.lang.reflect.Constructor;
import java.lang.reflect.Field;
import java.lang.reflect.Method;
import java.lang.reflect.Modifier;
import java.nio.file.Files;
import java.nio.file.Path;
import java.util.Arrays;
import java.util.Set;
import java.util.TreeSet;

/** The document's public face and no more, the rules of LANGUAGE.md that can be told by looking, and the room. */
public final class FaceTest {
    private static final String[] FACE = {
        "int element() throws IllegalStateException",
        "boolean put(int, int, int) throws IndexOutOfBoundsException, IllegalArgumentException",
        "int at(int, int) throws IndexOutOfBoundsException",
        "boolean multiply(int, int, int) throws IndexOutOfBoundsException, IllegalArgumentException",
        "int rank()",
        "int relations()",
        "long relation(int, int) throws IndexOutOfBoundsException",
        "long group(int, int) throws IndexOutOfBoundsException",
        "long hull(int, int) throws IndexOutOfBoundsException",
        "long factor(int) throws IndexOutOfBoundsException",
        "long test(int, int, int, int) throws IllegalArgumentException",
        "long times(int) throws IllegalStateException, IndexOutOfBoundsException",
        "int count()",
        "void clear()",
    };
    private static final String[] FORBIDDEN = {
        "import ", "package ", "catch", "finally", "synchronized", "assert ", "->", "::", "Exact(", "hashCode",
        "while (true)", "System.", "instanceof",
    };
    private static final String SOURCE = "src/main/java/StructureRows.java";
    private static final int MOST_BYTES = 4096;

    private static int wrong = 0;

    public static void main(String[] args) throws Exception {
        checkFace();
        checkInside(StructureRows.class);
        for (Class<?> inside : StructureRows.class.getDeclaredClasses()) {
            must(Modifier.isStatic(inside.getModifiers()), inside.getName() + " is static");
            must(!Modifier.isPublic(inside.getModifiers()), inside.getName() + " is not public");
            must(!Modifier.isProtected(inside.getModifiers()), inside.getName() + " is not protected");
            checkInside(inside);
        }
        checkSource();
        checkRoom();
        System.out.println(wrong == 0 ? "the face is as due" : wrong + " things are not as due");
        if (wrong != 0) {
            System.exit(1);
        }
    }

    private static void must(boolean holds, String what) {
        if (!holds) {
            wrong++;
            System.out.println("does not hold: " + what);
        }
    }

    private static void checkFace() {
        Class<?> face = StructureRows.class;
        must(face.getModifiers() == (Modifier.PUBLIC | Modifier.FINAL), "the class is public and final");
        Constructor<?>[] constructors = face.getDeclaredConstructors();
        must(constructors.length == 1 && constructors[0].getParameterCount() == 0
                && Modifier.isPublic(constructors[0].getModifiers()), "one public constructor without parameters");
        Set<String> seen = new TreeSet<>();
        for (Method method : face.getDeclaredMethods()) {
            if (!Modifier.isPrivate(method.getModifiers()) && !method.isSynthetic()) {
                must(method.getModifiers() == Modifier.PUBLIC, method.getName() + " is public and no more");
                seen.add(written(method));
            }
        }
        must(seen.equals(new TreeSet<>(Arrays.asList(FACE))), "the methods are those of the document, not " + seen);
    }

    private static String written(Method method) {
        StringBuilder text = new StringBuilder();
        text.append(method.getReturnType().getSimpleName()).append(' ').append(method.getName()).append('(');
        text.append(names(method.getParameterTypes())).append(')');
        if (method.getExceptionTypes().length > 0) {
            text.append(" throws ").append(names(method.getExceptionTypes()));
        }
        return text.toString();
    }

    private static String names(Class<?>[] types) {
        StringBuilder text = new StringBuilder();
        for (Class<?> type : types) {
            text.append(text.length() > 0 ? ", " : "").append(type.getSimpleName());
        }
        return text.toString();
    }

    private static void checkInside(Class<?> type) {
        for (Field field : type.getDeclaredFields()) {
            must(Modifier.isPrivate(field.getModifiers()), type.getName() + "." + field.getName() + " is private");
            must(!Modifier.isStatic(field.getModifiers()) || Modifier.isFinal(field.getModifiers()),
                    type.getName() + "." + field.getName() + " is final if static");
        }
        for (Method method : type.getDeclaredMethods()) {
            must(method.getParameterCount() <= 7, method.getName() + " has at most seven parameters");
            boolean ofFace = type == StructureRows.class && Modifier.isPublic(method.getModifiers());
            for (String line : FACE) {
                must(ofFace || !line.contains(" " + method.getName() + "("),
                        type.getName() + "." + method.getName() + " bears a name of the face");
            }
        }
    }

    private static void checkSource() throws Exception {
        String text = Files.readString(Path.of(SOURCE));
        for (String word : FORBIDDEN) {
            must(!text.contains(word), "the source has no '" + word + "'");
        }
    }

    /** Calls that throw nothing make nothing: all rows are made in the constructor. */
    private static void checkRoom() {
        com.sun.management.ThreadMXBean threads =
                (com.sun.management.ThreadMXBean) ManagementFactory.getThreadMXBean();
        long self = Thread.currentThread().getId();
        StructureRows x = new StructureRows();
        callAll(x);
        long before = threads.getThreadAllocatedBytes(self);
        long sum = 0;
        for (int round = 0; round < 20; round++) {
            sum += callAll(x);
        }
        long made = threads.getThreadAllocatedBytes(self) - before;
        must(made <= MOST_BYTES, "500 calls make no objects, not " + made + " bytes, sum " + sum);
    }

    private static long callAll(StructureRows x) {
        x.clear();
        long sum = 0;
        for (int element = 0; element < 4; element++) {
            sum += x.element();
            x.put(element, element, 5);
            x.put(element, 3 - element, element - 3);
        }
        x.multiply(0, 1, 0);
        x.put(3, 0, 0);
        x.put(3, 3, 0);
        sum += x.rank() + x.relations() + x.relation(0, 3) + x.group(1, 2) + x.hull(1, 2) + x.factor(2);
        sum += x.test(5, 0, 0, -3) + x.times(1) + x.at(2, 2) + x.count();
        return sum;
    }
}
