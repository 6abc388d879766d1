import java.lang.reflect.Constructor;
import java.lang.reflect.Field;
import java.lang.reflect.Method;
import java.lang.reflect.Modifier;
import java.util.Set;
import java.util.TreeSet;

/** The public face, and how long an object answers. */
public final class FaceTest {
    private static final Check CHECK = new Check("FaceTest");

    private static final Set<String> METHODS = Set.of(
        "public boolean StateFrames.write(long,int)",
        "public boolean StateFrames.again(int,int)",
        "public void StateFrames.clear()",
        "public int StateFrames.learn()",
        "public void StateFrames.forget()",
        "public int StateFrames.read(int)",
        "public int StateFrames.about(int)",
        "public int StateFrames.size()",
        "public int StateFrames.byteAt(int)");

    public static void main(String[] args) {
        theClass();
        itsMembers();
        mostCalls();
        CHECK.end();
    }

    private static void theClass() {
        CHECK.sentence("public final class StateFrames");
        int is = StateFrames.class.getModifiers();
        CHECK.due("public", Modifier.isPublic(is), true);
        CHECK.due("final", Modifier.isFinal(is), true);
        CHECK.due("without a package", StateFrames.class.getPackageName().isEmpty(), true);
        CHECK.due("of no other class", StateFrames.class.getSuperclass() == Object.class, true);
    }

    /** Members that are not private must be those of the document. */
    private static void itsMembers() {
        CHECK.sentence("The public face (and nothing else)");
        Set<String> found = new TreeSet<>();
        for (Method method : StateFrames.class.getDeclaredMethods()) {
            if (!Modifier.isPrivate(method.getModifiers()) && !method.isSynthetic()) {
                found.add(method.toString());
            }
        }
        CHECK.due("methods are the document's: " + found, found.equals(METHODS), true);
        for (Field field : StateFrames.class.getDeclaredFields()) {
            CHECK.due(field + " is private", Modifier.isPrivate(field.getModifiers()), true);
        }
        Constructor<?>[] made = StateFrames.class.getDeclaredConstructors();
        CHECK.due("constructors", made.length, 1);
        CHECK.due("its parameters", made[0].getParameterCount(), 0);
        CHECK.due("it is public", Modifier.isPublic(made[0].getModifiers()), true);
        for (Class<?> inside : StateFrames.class.getDeclaredClasses()) {
            int is = inside.getModifiers();
            CHECK.due(inside + " is static", Modifier.isStatic(is), true);
            CHECK.due(inside + " is not seen", Modifier.isPublic(is) || Modifier.isProtected(is), false);
        }
    }

    private static void mostCalls() {
        CHECK.sentence("An object is used for at most 512 calls after it has been made");
        StateFrames x = new StateFrames();
        int calls = 0;
        for (; calls < 8 * 60; calls += 8) {
            CHECK.due("write", x.write(0x28B52FFD00002300L, 8), true);
            CHECK.due("write", x.write(0x0061000000000000L, 2), true);
            CHECK.due("read", x.read(4), 4);
            CHECK.due("again", x.again(10, 1), true);
            CHECK.due("read", x.read(8), 8);
            CHECK.due("learn", x.learn(), 20);
            CHECK.due("about", x.about(6), 20);
            x.forget();
        }
        for (; calls < 512; calls += 2) {
            CHECK.due("size", x.size(), 8);
            CHECK.due("byteAt", x.byteAt(7), 'a');
        }
        CHECK.due("calls", calls, 512);
    }
}
