import java.lang.reflect.Constructor;
import java.lang.reflect.Field;
import java.lang.reflect.Method;
import java.lang.reflect.Modifier;
import java.util.Arrays;
import java.util.Set;
import java.util.TreeSet;

/** 'The public face': just these members, and no other one that can be seen from outside. */
public final class FaceTest {
    private static final Due due = new Due("FaceTest");
    private static final Set<String> FACE = Set.of(
        "public static final int BAD = -1",
        "public static final int NONE = -2",
        "public RoadDesk()",
        "public boolean edge(int, int, int, int)",
        "public boolean connect(int, int, int)",
        "public boolean weight(int, int)",
        "public boolean phase(int, int, int, int)",
        "public boolean type(int, int, int, int)",
        "public boolean car(int, int, int, int)",
        "public boolean aim(int, int)",
        "public boolean remove(int)",
        "public int run(int)",
        "public int of(int, int)",
        "public int lane(int, int, int)",
        "public int road(int, int)",
        "public int junction(int, int)",
        "public int way(int, int, int)",
        "public int total(int)");

    public static void main(String[] args) throws Exception {
        due.says("public final class RoadDesk");
        due.is("the class", RoadDesk.class.getModifiers(), Modifier.PUBLIC | Modifier.FINAL);
        due.yes("extends nothing", RoadDesk.class.getSuperclass() == Object.class);
        due.is("implements", RoadDesk.class.getInterfaces().length, 0);
        due.is("classes inside", RoadDesk.class.getDeclaredClasses().length, 0);
        due.says("The public face");
        Set<String> seen = seen();
        for (String member : FACE) {
            due.yes(member + " is there", seen.contains(member));
        }
        for (String member : seen) {
            due.yes(member + " is one of the face", FACE.contains(member));
        }
        due.end();
    }

    /** All members that are not private, written as in the document but without the parameters' names. */
    private static Set<String> seen() throws Exception {
        Set<String> seen = new TreeSet<>();
        for (Field field : RoadDesk.class.getDeclaredFields()) {
            if (isSeen(field.getModifiers())) {
                seen.add(words(field.getModifiers()) + field.getType() + " " + field.getName() + " = " + field.get(null));
            }
        }
        for (Constructor<?> made : RoadDesk.class.getDeclaredConstructors()) {
            if (isSeen(made.getModifiers())) {
                seen.add(words(made.getModifiers()) + "RoadDesk" + inBrackets(made.getParameterTypes()));
            }
        }
        for (Method method : RoadDesk.class.getDeclaredMethods()) {
            if (isSeen(method.getModifiers())) {
                seen.add(words(method.getModifiers()) + method.getReturnType() + " " + method.getName()
                        + inBrackets(method.getParameterTypes()));
            }
        }
        return seen;
    }

    private static boolean isSeen(int modifiers) {
        return !Modifier.isPrivate(modifiers);
    }

    private static String words(int modifiers) {
        String words = Modifier.toString(modifiers);
        return words.isEmpty() ? "" : words + " ";
    }

    private static String inBrackets(Class<?>[] types) {
        String list = Arrays.toString(types);
        return "(" + list.substring(1, list.length() - 1) + ")";
    }
}
