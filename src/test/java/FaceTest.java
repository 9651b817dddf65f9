import java.lang.reflect.Constructor;
import java.lang.reflect.Field;
import java.lang.reflect.Method;
import java.lang.reflect.Modifier;
import java.util.Arrays;
import java.util.Set;
import java.util.TreeSet;

/** The public face is the document's and no more, as LANGUAGE.md's rule 1 asks. */
public final class FaceTest {

    private static final Check CHECK = new Check("FaceTest");

    private static final String BAD = " throws java.lang.IllegalArgumentException";
    private static final String BOTH = BAD + ",java.lang.IllegalStateException";
    private static final Set<String> FACE = new TreeSet<>(Arrays.asList(
            "public static final int NONE",
            "public FloodingNet()",
            "public int link(int,int,int,int)" + BOTH,
            "public boolean fail(int,int)" + BAD,
            "public boolean restore(int,int)" + BAD,
            "public boolean start(int)" + BAD,
            "public boolean crash(int)" + BAD,
            "public int tick(int)" + BAD,
            "public int news(int,int,int)",
            "public int flying()",
            "public int distance(int,int)",
            "public int next(int,int)",
            "public int send(int,int,int)" + BOTH,
            "public int packet(int,int)",
            "public boolean settled()"));

    public static void main(String[] args) {
        Class<?> net = FloodingNet.class;
        CHECK.due("the class is public and final", net.getModifiers(), Modifier.PUBLIC | Modifier.FINAL);
        CHECK.due("nothing but the face is open: " + open(net), open(net).equals(FACE), true);
        privateMethodsHaveOtherNames(net);
        for (Class<?> inside : net.getDeclaredClasses()) {
            CHECK.due(inside + " is static", Modifier.isStatic(inside.getModifiers()), true);
            CHECK.due(inside + " is not public", Modifier.isPublic(inside.getModifiers()), false);
            privateMethodsHaveOtherNames(inside);
        }
        CHECK.end();
    }

    /** All members that are not private, without the class's name before theirs. */
    private static Set<String> open(Class<?> net) {
        Set<String> open = new TreeSet<>();
        for (Constructor<?> made : net.getDeclaredConstructors()) {
            if (!Modifier.isPrivate(made.getModifiers())) {
                open.add(made.toString());
            }
        }
        for (Method method : net.getDeclaredMethods()) {
            if (!Modifier.isPrivate(method.getModifiers())) {
                open.add(method.toString().replace("FloodingNet.", ""));
            }
        }
        for (Field field : net.getDeclaredFields()) {
            if (!Modifier.isPrivate(field.getModifiers())) {
                open.add(field.toString().replace("FloodingNet.", ""));
            }
        }
        return open;
    }

    private static void privateMethodsHaveOtherNames(Class<?> type) {
        for (Method method : type.getDeclaredMethods()) {
            boolean taken = FACE.stream().anyMatch(face -> face.contains(" " + method.getName() + "("));
            boolean isPrivate = !Modifier.isPublic(method.getModifiers());
            CHECK.due(method + " bears a public one's name", isPrivate && taken, false);
        }
    }
}
