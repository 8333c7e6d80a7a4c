import java.lang.reflect.Constructor;
import java.lang.reflect.Field;
import java.lang.reflect.Method;
import java.lang.reflect.Modifier;
import java.util.Set;
import java.util.TreeSet;

/** The public face: what the document lists, and nothing beside it. */
public final class FaceTest {
    private static int wrong = 0;

    private static void due(String what, Object got, Object want) {
        if (!got.equals(want)) {
            wrong++;
            System.out.println(what + " is " + got + ", due is " + want);
        }
    }

    private static Set<String> visibleMethods() {
        Set<String> found = new TreeSet<>();
        for (Method method : JumpBoard.class.getDeclaredMethods()) {
            if (!Modifier.isPrivate(method.getModifiers()) && !method.isSynthetic()) {
                found.add(method.toGenericString());
            }
        }
        return found;
    }

    private static Set<String> visibleFields() {
        Set<String> found = new TreeSet<>();
        for (Field field : JumpBoard.class.getDeclaredFields()) {
            if (!Modifier.isPrivate(field.getModifiers()) && !field.isSynthetic()) {
                found.add(field.toGenericString());
            }
        }
        return found;
    }

    private static Set<String> privateTwins() {
        Set<String> open = new TreeSet<>();
        Set<String> hidden = new TreeSet<>();
        for (Method method : JumpBoard.class.getDeclaredMethods()) {
            (Modifier.isPublic(method.getModifiers()) ? open : hidden).add(method.getName());
        }
        hidden.retainAll(open);
        return hidden;
    }

    private static Set<String> openFields(Class<?> type) {
        Set<String> found = new TreeSet<>();
        for (Field field : type.getDeclaredFields()) {
            int modifiers = field.getModifiers();
            if (Modifier.isStatic(modifiers) && !Modifier.isFinal(modifiers)) {
                found.add(field.toGenericString());
            }
        }
        return found;
    }

    public static void main(String[] args) {
        String[] methods = {
            "public void JumpBoard.begin()",
            "public void JumpBoard.clear()",
            "public boolean JumpBoard.put(int,int)",
            "public boolean JumpBoard.turn(int)",
            "public int JumpBoard.at(int)",
            "public int JumpBoard.side()",
            "public int JumpBoard.moves()",
            "public int JumpBoard.move(int,int)",
            "public int JumpBoard.play(int)",
            "public boolean JumpBoard.undo()",
            "public int JumpBoard.played()",
            "public int JumpBoard.over()",
            "public int JumpBoard.quiet()",
            "public int JumpBoard.ways(int)",
            "public int JumpBoard.verdict()",
            "public int JumpBoard.value(int)",
            "public int JumpBoard.best(int)",
        };
        due("the methods", visibleMethods(), new TreeSet<>(Set.of(methods)));
        due("the constants", visibleFields(), new TreeSet<>(Set.of(
                "public static final int JumpBoard.BAD", "public static final int JumpBoard.NONE")));
        due("BAD", JumpBoard.BAD, -1);
        due("NONE", JumpBoard.NONE, -2000);
        due("private methods with a public name", privateTwins(), new TreeSet<String>());

        Constructor<?>[] makers = JumpBoard.class.getDeclaredConstructors();
        due("the number of constructors", makers.length, 1);
        due("the constructor", makers[0].toGenericString(), "public JumpBoard()");
        due("public and final", Modifier.toString(JumpBoard.class.getModifiers()), "public final");
        due("static state", openFields(JumpBoard.class), new TreeSet<String>());
        for (Class<?> inside : JumpBoard.class.getDeclaredClasses()) {
            due(inside + " static", Modifier.isStatic(inside.getModifiers()), true);
            due(inside + " static state", openFields(inside), new TreeSet<String>());
        }

        System.out.println(wrong == 0 ? "all answers are as due" : wrong + " answers are not as due");
        if (wrong != 0) {
            System.exit(1);
        }
    }
}
