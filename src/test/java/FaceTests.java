import java.lang.reflect.Constructor;
import java.lang.reflect.Field;
import java.lang.reflect.Method;
import java.lang.reflect.Modifier;
import java.util.Arrays;
import java.util.TreeSet;

/** The class has the document's face, and no other member that is not private. */
public final class FaceTests {
    private static final String NO_SUCH = "java.util.NoSuchElementException";
    private static final String ARGUMENT = "java.lang.IllegalArgumentException";
    private static final String STATE = "java.lang.IllegalStateException";

    public static void main(String[] args) {
        TreeSet<String> want = new TreeSet<>(Arrays.asList(
                "public static final int NONE",
                "public TextAligner()",
                "public int feed(int,int,int,int,int) throws " + NO_SUCH + "," + STATE,
                "public int clear(int) throws " + NO_SUCH,
                "public int search(int,int) throws " + ARGUMENT,
                "public int found(int,int) throws " + NO_SUCH + "," + ARGUMENT,
                "public int step(int,int) throws " + NO_SUCH,
                "public int least()",
                "public int score(int,int,int) throws " + NO_SUCH + "," + ARGUMENT,
                "public void gaps(int,int) throws " + ARGUMENT,
                "public int fit(int) throws " + ARGUMENT,
                "public int count(int) throws " + ARGUMENT));
        TreeSet<String> got = new TreeSet<>();
        for (Field field : TextAligner.class.getDeclaredFields()) {
            addUnlessPrivate(got, field.getModifiers(), field.toString());
        }
        for (Method method : TextAligner.class.getDeclaredMethods()) {
            addUnlessPrivate(got, method.getModifiers(), method.toString());
        }
        for (Constructor<?> constructor : TextAligner.class.getDeclaredConstructors()) {
            addUnlessPrivate(got, constructor.getModifiers(), constructor.toString());
        }
        int modifiers = TextAligner.class.getModifiers();
        boolean publicAndFinal = Modifier.isPublic(modifiers) && Modifier.isFinal(modifiers);
        if (!got.equals(want) || !publicAndFinal) {
            System.out.println("the face is " + got + ", due is " + want + ", public and final");
            System.exit(1);
        }
        System.out.println("the face is as due");
    }

    private static void addUnlessPrivate(TreeSet<String> members, int modifiers, String member) {
        if (!Modifier.isPrivate(modifiers)) {
            members.add(member.replace("TextAligner.", ""));
        }
    }
}
