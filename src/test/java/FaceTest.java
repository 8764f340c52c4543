import java.lang.reflect.Constructor;
import java.lang.reflect.Field;
import java.lang.reflect.Method;
import java.lang.reflect.Modifier;
import java.util.List;
import java.util.Set;
import java.util.TreeSet;

/** The public face, and that nothing beside it is open. */
public final class FaceTest {
    private static final Due due = new Due("FaceTest");

    private static final List<String> FACE = List.of(
        "int plank(int,int,int,boolean)", "int walker(int,int,int,int)", "int leave(int)", "int fog(boolean)",
        "int say(int)", "int wipe()", "int fault()", "int judge(int)", "int behind(int,int)", "int who(int)",
        "int done()", "int way(int,int,int)", "int far(int)", "int left(int)", "int out(int)",
        "int round(int,int,int)", "int more(int)", "int decides(int)", "int wax(int)", "int post(int,int)",
        "int by(int)", "int seen(int,int)", "int forget()", "int whose()", "int ask(int)",
        "long chance(int,int,int,int)", "int year(int,int,int)", "int image(int)", "int restore(int)",
        "int told(int)");

    public static void main(String[] args) {
        constants();
        methods();
        members();
        nested();
        due.end();
    }

    private static void constants() {
        due.is("UNKNOWN", LanternSteps.UNKNOWN, -1);
        due.is("OUTSIDE", LanternSteps.OUTSIDE, -2);
        due.is("STATE", LanternSteps.STATE, -3);
        due.is("FULL", LanternSteps.FULL, -4);
        due.is("NO", LanternSteps.NO, -5);
        due.is("NONE", LanternSteps.NONE, -6);
        due.is("GONE", LanternSteps.GONE, -1000000000000000000L);
        due.holds("the class is public and final",
            (LanternSteps.class.getModifiers() & (Modifier.PUBLIC | Modifier.FINAL)) == (Modifier.PUBLIC | Modifier.FINAL));
    }

    private static void methods() {
        Set<String> found = new TreeSet<>();
        for (Method method : LanternSteps.class.getDeclaredMethods()) {
            if (Modifier.isPublic(method.getModifiers())) {
                StringBuilder told = new StringBuilder(method.getReturnType() + " " + method.getName() + "(");
                for (Class<?> type : method.getParameterTypes()) {
                    told.append(told.charAt(told.length() - 1) == '(' ? "" : ",").append(type);
                }
                found.add(told.append(")").toString());
                due.holds(method + " is of an object", !Modifier.isStatic(method.getModifiers()));
            }
        }
        for (String method : FACE) {
            due.holds("there is " + method, found.contains(method));
        }
        due.is("public methods", found.size(), FACE.size());
    }

    private static void members() {
        Set<String> open = new TreeSet<>();
        for (Method method : LanternSteps.class.getDeclaredMethods()) {
            if (Modifier.isPublic(method.getModifiers())) {
                open.add(method.getName());
            }
        }
        for (Method method : LanternSteps.class.getDeclaredMethods()) {
            if (!Modifier.isPublic(method.getModifiers())) {
                due.holds(method + " is private", Modifier.isPrivate(method.getModifiers()));
                due.holds(method + " bears no public name", !open.contains(method.getName()));
            }
        }
        Set<String> constants = Set.of("UNKNOWN", "OUTSIDE", "STATE", "FULL", "NO", "NONE", "GONE");
        for (Field field : LanternSteps.class.getDeclaredFields()) {
            boolean isPublic = Modifier.isPublic(field.getModifiers());
            due.holds(field + " is as in the face", isPublic == constants.contains(field.getName()));
            due.holds(field + " is public or private", isPublic || Modifier.isPrivate(field.getModifiers()));
            due.holds(field + " is final if static",
                !Modifier.isStatic(field.getModifiers()) || Modifier.isFinal(field.getModifiers()));
            due.holds(field + " is static if public", !isPublic || Modifier.isStatic(field.getModifiers()));
            due.holds(field + " is an int, but for GONE",
                !isPublic || field.getType() == (field.getName().equals("GONE") ? long.class : int.class));
        }
        Constructor<?>[] constructors = LanternSteps.class.getDeclaredConstructors();
        due.is("constructors", constructors.length, 1);
        due.holds("a public one", Modifier.isPublic(constructors[0].getModifiers()));
    }

    private static void nested() {
        for (Class<?> inner : LanternSteps.class.getDeclaredClasses()) {
            due.holds(inner + " is static", Modifier.isStatic(inner.getModifiers()));
            due.holds(inner + " is not public", !Modifier.isPublic(inner.getModifiers()));
        }
    }
}
