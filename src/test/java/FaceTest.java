import java.lang.reflect.Field;
import java.lang.reflect.Method;
import java.lang.reflect.Modifier;
import java.util.Arrays;
import java.util.TreeSet;

/** The class has the document's face, and no member beside it that others can see. */
public final class FaceTest {
    private static final String[] METHODS = {
        "int job(int, int, int, int) throws IllegalArgumentException IllegalStateException",
        "int after(int, int) throws IndexOutOfBoundsException IllegalArgumentException",
        "int lock(int, int, int, int) throws IndexOutOfBoundsException IllegalArgumentException IllegalStateException",
        "int turns(int, int, int, int, boolean) throws IllegalArgumentException",
        "int clear()",
        "int run(int) throws IllegalArgumentException",
        "int running(int) throws IllegalArgumentException IllegalStateException",
        "int left(int, int) throws IndexOutOfBoundsException IllegalArgumentException IllegalStateException",
        "int work(int) throws IllegalArgumentException IllegalStateException",
        "int end(int) throws IndexOutOfBoundsException IllegalStateException",
        "int sumOfEnds() throws IllegalStateException",
        "int waits(int) throws IndexOutOfBoundsException IllegalStateException",
        "int blocked(int) throws IndexOutOfBoundsException IllegalStateException",
        "int late(int) throws IndexOutOfBoundsException IllegalStateException",
        "int slowest(boolean) throws IllegalStateException",
        "int busy(int, boolean) throws IllegalStateException NoSuchElementException",
        "int checksum() throws IllegalStateException",
        "int which() throws IllegalStateException",
        "int best()",
        "int two(boolean, boolean)",
        "boolean isFeasible() throws IllegalStateException",
        "int full(int) throws IllegalArgumentException",
        "int task(int, int, int) throws IllegalArgumentException IllegalStateException",
        "long load(boolean)",
        "int response(int) throws IndexOutOfBoundsException",
        "double meanEnd() throws IllegalStateException",
        "float workShare() throws IllegalStateException",
        "int errors()",
    };
    private static final String[] CONSTANTS = {
        "NONE -1", "IDLE -1", "CHANGES -2", "RING 0", "COMING 1", "SHORTEST 2", "LEAST_LEFT 3", "LEVELS 4", "SHARES 5",
        "DEADLINE 6", "LOTS 7", "RANKS 8",
    };

    private FaceTest() {
    }

    public static void main(String[] args) throws IllegalAccessException {
        Class<?> face = Slicehouse.class;
        int modifiers = face.getModifiers();
        Check.due("public and final", Modifier.PUBLIC | Modifier.FINAL, () -> modifiers);
        Check.due("methods", new TreeSet<>(Arrays.asList(METHODS)), () -> seenMethods(face));
        TreeSet<String> constants = seenConstants(face);
        Check.due("constants", new TreeSet<>(Arrays.asList(CONSTANTS)), () -> constants);
        Check.due("constructors", "[public Slicehouse()]", () -> Arrays.toString(face.getDeclaredConstructors()));
        Check.due("names used twice", new TreeSet<String>(), () -> privateMethodsNamedAsPublicOnes(face));
        for (Class<?> inside : face.getDeclaredClasses()) {
            int bits = inside.getModifiers();
            Check.due(inside + " is hidden", true, () -> (bits & (Modifier.PUBLIC | Modifier.PROTECTED)) == 0);
            Check.due(inside + " is static", true, () -> Modifier.isStatic(bits));
        }
        Check.end("FaceTest");
    }

    private static TreeSet<String> seenMethods(Class<?> face) {
        TreeSet<String> seen = new TreeSet<>();
        for (Method method : face.getDeclaredMethods()) {
            if (Modifier.isPrivate(method.getModifiers())) {
                continue;
            }
            StringBuilder text = new StringBuilder();
            text.append(Modifier.isPublic(method.getModifiers()) ? "" : "not public: ");
            text.append(Modifier.isStatic(method.getModifiers()) ? "static " : "");
            text.append(method.getReturnType().getSimpleName()).append(' ').append(method.getName());
            text.append(names(method.getParameterTypes(), "(", ", ")).append(')');
            text.append(method.getExceptionTypes().length == 0 ? "" : names(method.getExceptionTypes(), " throws ", " "));
            seen.add(text.toString());
        }
        return seen;
    }

    private static String names(Class<?>[] types, String first, String between) {
        StringBuilder text = new StringBuilder(first);
        for (int i = 0; i < types.length; i++) {
            text.append(i == 0 ? "" : between).append(types[i].getSimpleName());
        }
        return text.toString();
    }

    private static TreeSet<String> seenConstants(Class<?> face) throws IllegalAccessException {
        TreeSet<String> seen = new TreeSet<>();
        for (Field field : face.getDeclaredFields()) {
            int bits = field.getModifiers();
            boolean isConstant = bits == (Modifier.PUBLIC | Modifier.STATIC | Modifier.FINAL) && field.getType() == int.class;
            if (isConstant) {
                seen.add(field.getName() + " " + field.getInt(null));
            } else if (!Modifier.isPrivate(bits)) {
                seen.add("not private: " + field);
            }
        }
        return seen;
    }

    private static TreeSet<String> privateMethodsNamedAsPublicOnes(Class<?> face) {
        TreeSet<String> shown = new TreeSet<>();
        for (Method method : face.getDeclaredMethods()) {
            if (Modifier.isPublic(method.getModifiers())) {
                shown.add(method.getName());
            }
        }
        TreeSet<String> twice = new TreeSet<>();
        for (Class<?> owner : withInside(face)) {
            for (Method method : owner.getDeclaredMethods()) {
                if (!Modifier.isPublic(method.getModifiers()) && shown.contains(method.getName())) {
                    twice.add(owner.getSimpleName() + "." + method.getName());
                }
            }
        }
        return twice;
    }

    private static Class<?>[] withInside(Class<?> face) {
        Class<?>[] inside = face.getDeclaredClasses();
        Class<?>[] all = Arrays.copyOf(inside, inside.length + 1);
        all[inside.length] = face;
        return all;
    }
}
