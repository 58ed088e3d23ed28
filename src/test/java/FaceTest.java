import java.lang.reflect.Constructor;
import java.lang.reflect.Field;
import java.lang.reflect.Method;
import java.lang.reflect.Modifier;
import java.util.Arrays;
import java.util.TreeSet;

/** The class shows the face of ../shared/DOC.md and nothing else, as rule 1 of ../shared/LANGUAGE.md asks. */
public final class FaceTest {
    private static final String[] FACE = {
        "CrackTarget()", "int set(int,int)", "int hear(int,int)", "int fire(int,int,int)", "int hearAll()", "int forget(int)",
        "int clear()", "int takes(int,int,int)", "int pulse(int,int)", "int shot(int,int)", "int count(int)",
        "int fits(int,int,int)", "int mean(int)", "int ifHeat(int,int)", "int bestHeat()", "int ifForgot(int)", "int put(long)",
        "int wipe()", "int fault()", "int undo()", "int save(int)", "int restore(int)",
        "NO_SUCH=-1", "BAD_VALUE=-2", "BAD_TEXT=-3", "TOO_MANY=-4", "NOT_POSSIBLE=-5", "NONE=-6", "HEAT=0", "WINDOW=1", "SLACK=2"};

    public static void main(String[] args) throws IllegalAccessException {
        TreeSet<String> seen = new TreeSet<>();
        Class<?> face = CrackTarget.class;
        for (Constructor<?> made : face.getDeclaredConstructors()) {
            seen.add(show(made.getModifiers(), face.getName(), made.getParameterTypes()));
        }
        for (Method method : face.getDeclaredMethods()) {
            if (!Modifier.isPrivate(method.getModifiers())) {
                seen.add(show(method.getModifiers(), method.getReturnType() + " " + method.getName(), method.getParameterTypes()));
            }
        }
        for (Field field : face.getDeclaredFields()) {
            int is = field.getModifiers();
            if (!Modifier.isPrivate(is)) {
                boolean constant = Modifier.isPublic(is) && Modifier.isStatic(is) && Modifier.isFinal(is);
                seen.add(constant ? field.getName() + "=" + field.getInt(null) : "not a constant: " + field.getName());
            }
        }
        TreeSet<String> due = new TreeSet<>(Arrays.asList(FACE));
        boolean closed = Modifier.isFinal(face.getModifiers()) && Modifier.isPublic(face.getModifiers());
        System.out.println(seen.equals(due) && closed ? "the face is as due" : "the face is " + seen + ", due is " + due);
        if (!seen.equals(due) || !closed) {
            System.exit(1);
        }
    }

    private static String show(int is, String name, Class<?>[] parameters) {
        String types = Arrays.stream(parameters).map(Class::getName).reduce((a, b) -> a + "," + b).orElse("");
        return (Modifier.isPublic(is) && !Modifier.isStatic(is) ? "" : "not public: ") + name + "(" + types + ")";
    }
}
