import java.lang.reflect.Constructor;
import java.lang.reflect.Field;
import java.lang.reflect.Member;
import java.lang.reflect.Method;
import java.lang.reflect.Modifier;
import java.util.Arrays;
import java.util.TreeSet;

/** The class shows the document's face and nothing else. */
public final class FaceTest {
    private static final String[] FACE = {
        "public static final int StateExplore.NONE",
        "public StateExplore(int,int)",
        "public int StateExplore.state() throws java.lang.UnsupportedOperationException",
        "public int StateExplore.message() throws java.lang.UnsupportedOperationException",
        "public int StateExplore.rule(int,int,int) throws java.lang.IllegalArgumentException,java.lang.UnsupportedOperationException",
        "public int StateExplore.sends(int,int,int) throws java.lang.IllegalArgumentException,java.lang.UnsupportedOperationException",
        "public boolean StateExplore.bad(int,int) throws java.lang.IllegalArgumentException",
        "public int StateExplore.run()",
        "public int StateExplore.go(int) throws java.lang.IllegalArgumentException",
        "public int StateExplore.node(int,int) throws java.lang.IndexOutOfBoundsException",
        "public int StateExplore.code(int,int) throws java.lang.IndexOutOfBoundsException",
        "public int StateExplore.whole(int,int) throws java.lang.IndexOutOfBoundsException",
        "public int StateExplore.way()",
        "public int StateExplore.wayAt(int) throws java.lang.IndexOutOfBoundsException",
        "public int StateExplore.count(int)"
    };

    public static void main(String[] args) {
        TreeSet<String> seen = new TreeSet<>();
        for (Field f : StateExplore.class.getDeclaredFields()) {
            addSeen(seen, f, f.toString());
        }
        for (Constructor<?> c : StateExplore.class.getDeclaredConstructors()) {
            addSeen(seen, c, c.toString());
        }
        for (Method m : StateExplore.class.getDeclaredMethods()) {
            addSeen(seen, m, m.toString());
        }
        Check.same("the face", seen.toString(), new TreeSet<>(Arrays.asList(FACE)).toString());
        Check.same("final", Modifier.isFinal(StateExplore.class.getModifiers()), true);
        Check.same("public", Modifier.isPublic(StateExplore.class.getModifiers()), true);
        Check.same("NONE", StateExplore.NONE, -1);
        Check.same("the class above", StateExplore.class.getSuperclass().getName(), "java.lang.Object");
        Check.same("interfaces", StateExplore.class.getInterfaces().length, 0);
        checkClassesInside();
        Check.end("FaceTest");
    }

    /** Classes inside are no part of the face: none can be seen from outside, none needs an outer object. */
    private static void checkClassesInside() {
        for (Class<?> inside : StateExplore.class.getDeclaredClasses()) {
            int modifiers = inside.getModifiers();
            boolean seen = Modifier.isPublic(modifiers) || Modifier.isProtected(modifiers);
            Check.same(inside.getName() + " is seen", seen, false);
            Check.same(inside.getName() + " is static", Modifier.isStatic(modifiers), true);
        }
    }

    private static void addSeen(TreeSet<String> seen, Member member, String text) {
        if (!Modifier.isPrivate(member.getModifiers()) && !member.isSynthetic()) {
            seen.add(text);
        }
    }
}
