import java.lang.reflect.Constructor;
import java.lang.reflect.Field;
import java.lang.reflect.Method;
import java.lang.reflect.Modifier;
import java.util.Set;
import java.util.TreeSet;

/** The public face, word for word, and nothing beside it that is not private. */
public final class FaceTest {
    private static final String[] METHODS = {
        "public void start(int) throws IllegalArgumentException",
        "public int line(int,int) throws IllegalArgumentException,IllegalStateException",
        "public boolean arc(int,int,int,int,boolean) throws IllegalArgumentException,IllegalStateException",
        "public int turn() throws IllegalStateException",
        "public int radius(int,int) throws IndexOutOfBoundsException",
        "public int about(int,int) throws IndexOutOfBoundsException",
        "public int tool(int) throws IllegalArgumentException,IllegalStateException",
        "public int reached(int,int,int) throws IndexOutOfBoundsException",
        "public int left(int,int) throws IndexOutOfBoundsException",
        "public int passes(int,int,int,int) throws IndexOutOfBoundsException,IllegalArgumentException",
        "public int cut(int,int,int,int,int) throws IndexOutOfBoundsException,IllegalArgumentException",
        "public int steady(int,int,int)"
            + " throws IndexOutOfBoundsException,IllegalArgumentException,IllegalStateException",
        "public long volume(int,boolean) throws IndexOutOfBoundsException",
        "public int hollow(int,int,int) throws IndexOutOfBoundsException,IllegalArgumentException",
        "public int copy(int,int) throws IndexOutOfBoundsException",
        "public int ring() throws IllegalStateException",
        "public int wedge(int,int,int)"
            + " throws IndexOutOfBoundsException,IllegalArgumentException,IllegalStateException",
        "public long mitre(int,int,int) throws IndexOutOfBoundsException",
        "public long gap(int,int) throws IndexOutOfBoundsException",
        "public boolean closes(int) throws IndexOutOfBoundsException",
        "public long flute(int,int,int) throws IndexOutOfBoundsException,IllegalArgumentException",
        "public void thread(int,int) throws IllegalArgumentException",
        "public long threadAt(int,int)"
            + " throws IndexOutOfBoundsException,IllegalArgumentException,IllegalStateException",
        "public int row(int,int) throws IllegalArgumentException,IllegalStateException",
        "public int speed(int,int) throws IndexOutOfBoundsException,IllegalStateException",
    };

    private FaceTest() {
    }

    public static void main(String[] args) {
        Script.check(LathePieces.NONE == -1, "NONE is not -1");
        Script.check(LathePieces.class.getModifiers() == (Modifier.PUBLIC | Modifier.FINAL),
                "the class is not public final");
        checkMethods();
        checkFields();
        Constructor<?>[] constructors = LathePieces.class.getDeclaredConstructors();
        Script.check(constructors.length == 1 && constructors[0].toString().equals("public LathePieces()"),
                "not just the one constructor");
        Script.finish();
    }

    private static void checkMethods() {
        Set<String> left = new TreeSet<>(Set.of(METHODS));
        Set<String> names = new TreeSet<>();
        for (Method method : LathePieces.class.getDeclaredMethods()) {
            if (!Modifier.isPrivate(method.getModifiers())) {
                String face = method.toString().replace("java.lang.", "").replace("LathePieces.", "");
                Script.check(left.remove(face), "not of the face: " + face);
                names.add(method.getName());
            }
        }
        Script.check(left.isEmpty(), "missing: " + left);
        checkNames(LathePieces.class, names);
        for (Class<?> inside : LathePieces.class.getDeclaredClasses()) {
            Script.check(Modifier.isStatic(inside.getModifiers()) && Modifier.isPrivate(inside.getModifiers()),
                    "not private static: " + inside);
            checkNames(inside, names);
        }
    }

    private static void checkNames(Class<?> owner, Set<String> names) {
        for (Method method : owner.getDeclaredMethods()) {
            boolean ofFace = owner == LathePieces.class && Modifier.isPublic(method.getModifiers());
            Script.check(ofFace || !names.contains(method.getName()), "bears a public name: " + method);
        }
    }

    private static void checkFields() {
        for (Field field : LathePieces.class.getDeclaredFields()) {
            boolean open = field.getName().equals("NONE");
            int modifiers = field.getModifiers();
            Script.check(open ? Modifier.isPublic(modifiers) : Modifier.isPrivate(modifiers),
                    "wrongly visible: " + field);
            Script.check(!Modifier.isStatic(modifiers) || Modifier.isFinal(modifiers), "not final: " + field);
        }
    }
}
