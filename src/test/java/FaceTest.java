import java.lang.reflect.Constructor;
import java.lang.reflect.Field;
import java.lang.reflect.Method;
import java.lang.reflect.Modifier;
import java.util.Set;
import java.util.TreeSet;

/** The public face is the document's, whole and nothing more. */
public final class FaceTest {
    private static final String[] METHODS = {
        "int table()", "int row(int,int,int,int)", "int pair(int,int,int,int,int)",
        "int order(int,int)", "int clear()", "int read(int)", "int join(int,int,int)",
        "int code(int,int)", "int about(int,int)", "long price(int,int)", "int best(int)",
        "int spans()", "long border(int,int)", "int keen(int)", "int near(int,int,int)",
        "int worst(int)", "int blind()", "int cover(int)", "int run(int)", "int steps()",
        "int out(int,int)", "int holds(int)", "int count(int)"};
    private static final String[] CONSTANTS = {
        "int NONE", "int BAD", "int STATE", "int FULL", "long NO"};

    public static void main(String[] args) {
        methods();
        constants();
        constructors();
        ownNames();
        Check.end("FaceTest");
    }

    private static void methods() {
        Set<String> found = new TreeSet<>();
        for (Method method : PlanCabinet.class.getDeclaredMethods()) {
            if (Modifier.isPrivate(method.getModifiers()) || method.isSynthetic()) {
                continue;
            }
            Check.holds(method + " is public and of the object",
                Modifier.isPublic(method.getModifiers())
                    && !Modifier.isStatic(method.getModifiers()));
            found.add(method.getReturnType() + " " + method.getName() + types(method));
        }
        Check.holds("the methods " + found, found.equals(Set.of(METHODS)));
    }

    private static String types(Method method) {
        StringBuilder text = new StringBuilder("(");
        for (Class<?> type : method.getParameterTypes()) {
            text.append(text.length() > 1 ? "," : "").append(type);
        }
        return text.append(")").toString();
    }

    private static void constants() {
        Set<String> found = new TreeSet<>();
        for (Field field : PlanCabinet.class.getDeclaredFields()) {
            if (!Modifier.isPrivate(field.getModifiers())) {
                Check.holds(field + " is a constant", Modifier.isPublic(field.getModifiers())
                    && Modifier.isStatic(field.getModifiers())
                    && Modifier.isFinal(field.getModifiers()));
                found.add(field.getType() + " " + field.getName());
            } else if (Modifier.isStatic(field.getModifiers())) {
                Check.holds(field + " is final", Modifier.isFinal(field.getModifiers()));
            }
        }
        Check.holds("the constants " + found, found.equals(Set.of(CONSTANTS)));
        Check.due("NONE", -1, PlanCabinet.NONE);
        Check.due("BAD", -2, PlanCabinet.BAD);
        Check.due("STATE", -3, PlanCabinet.STATE);
        Check.due("FULL", -4, PlanCabinet.FULL);
        Check.due("NO", Long.MIN_VALUE, PlanCabinet.NO);
    }

    private static void constructors() {
        Constructor<?>[] all = PlanCabinet.class.getDeclaredConstructors();
        Check.due("constructors", 1, all.length);
        Check.holds("a public one without arguments",
            Modifier.isPublic(all[0].getModifiers()) && all[0].getParameterCount() == 0);
        Check.holds("public and final", Modifier.isPublic(PlanCabinet.class.getModifiers())
            && Modifier.isFinal(PlanCabinet.class.getModifiers()));
    }

    private static void ownNames() {
        Set<String> face = new TreeSet<>();
        for (String method : METHODS) {
            face.add(method.substring(method.indexOf(' ') + 1, method.indexOf('(')));
        }
        for (Method method : PlanCabinet.class.getDeclaredMethods()) {
            Check.holds(method + " has a name of its own",
                Modifier.isPublic(method.getModifiers()) || !face.contains(method.getName()));
        }
        for (Class<?> nested : PlanCabinet.class.getDeclaredClasses()) {
            for (Method method : nested.getDeclaredMethods()) {
                Check.holds(method + " has a name of its own", !face.contains(method.getName()));
            }
        }
    }
}
