import java.lang.reflect.Field;
import java.lang.reflect.Method;
import java.lang.reflect.Modifier;
import java.util.Arrays;
import java.util.TreeSet;

/** The public face as the document tells it, and no other member that is not private. */
public final class FaceTest {
    private static final String[] FACE = {
        "int feed(int,int,int,int,int)", "int city(int) I", "int law(int) I", "int work(int) I", "int book(int) I",
        "int fault()", "int undo()", "int told(int) I", "int street(int,int) N I", "int lane(int,int) N I",
        "int man(int,int) N I", "int sleeper(int,int) N I", "int would(int,int,int,int,int,int,int,int) I",
        "int says(int,int) N", "int wakes(int,int) N", "int nearest(int,int,int) N I", "int raise(int) I",
        "int who(int) I", "int listen(int) I", "int way(int,int) N", "int past(int,int,int) N I",
        "int shut(int,int) N I", "long believe(int,int,int) I", "int roster(int) I", "int thief(int,int) I",
        "int oil(int,int,int) N I", "int sounds(int) I", "int busiest(int) I", "int reach(int) N", "int range(int) N",
        "int silent()", "int late(int) N", "int agree(int) I", "int waker(int,int) N I", "int deepest(int) I",
        "int farthest(int,int) N I", "int year(int,int,int,int) I", "int span(int,int,int,int,int,int) I",
        "int image()", "int restore()", "int status(int)", "int count(int)"};

    public static void main(String[] args) {
        Check check = new Check("FaceTest");
        TreeSet<String> due = new TreeSet<>(Arrays.asList(FACE));
        TreeSet<String> found = new TreeSet<>();
        for (Method method : HopedHours.class.getDeclaredMethods()) {
            if (!Modifier.isPrivate(method.getModifiers()) && !method.isSynthetic()) {
                found.add(told(method));
            }
        }
        for (String method : due) {
            check.due("the face has " + method, found.contains(method) ? 1 : 0, 1);
        }
        for (String method : found) {
            check.due("the document has " + method, due.contains(method) ? 1 : 0, 1);
        }
        for (Field field : HopedHours.class.getDeclaredFields()) {
            boolean none = field.getName().equals("NONE");
            check.due(field.getName(), Modifier.isPublic(field.getModifiers()) == none
                    && Modifier.isPrivate(field.getModifiers()) != none ? 1 : 0, 1);
        }
        check.due("NONE", HopedHours.NONE, -1);
        check.due("final", Modifier.isFinal(HopedHours.class.getModifiers()) ? 1 : 0, 1);
        check.due("constructors", HopedHours.class.getConstructors().length, 1);
        check.end();
    }

    private static String told(Method method) {
        StringBuilder text = new StringBuilder();
        text.append(Modifier.isPublic(method.getModifiers()) ? "" : "hidden ");
        text.append(method.getReturnType().getName()).append(' ').append(method.getName()).append('(');
        for (Class<?> type : method.getParameterTypes()) {
            text.append(text.charAt(text.length() - 1) == '(' ? "" : ",").append(type.getName());
        }
        text.append(')');
        for (Class<?> type : method.getExceptionTypes()) {
            text.append(' ').append(type.getSimpleName().charAt(0));
        }
        return text.toString();
    }
}
