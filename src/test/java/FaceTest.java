import java.io.IOException;
import java.lang.reflect.Constructor;
import java.lang.reflect.Field;
import java.lang.reflect.Method;
import java.lang.reflect.Modifier;
import java.nio.file.Files;
import java.nio.file.Path;
import java.util.Arrays;
import java.util.List;
import java.util.Set;
import java.util.TreeSet;
import java.util.regex.Matcher;
import java.util.regex.Pattern;

/** The public face, and what of LANGUAGE.md can be told from the text of the class. */
public final class FaceTest {
    private static final Due due = new Due("FaceTest");

    private static final List<String> FACE = List.of(
        "int plank(int,int,int,boolean)", "int walker(int,int,int,int)", "int leave(int)", "int fog(boolean)",
        "int say(int)", "int wipe()", "int fault()", "int judge(int)", "int behind(int,int)", "int who(int)",
        "int done()", "int way(int,int,int)", "int far(int)", "int left(int)", "int out(int)",
        "int round(int,int,int)", "int more(int)", "int decides(int)", "int wax(int)", "int post(int,int)",
        "int by(int)", "int seen(int,int)", "int forget()", "int whose()", "int ask(int)",
        "long chance(int,int,int,int)", "int year(int,int,int)", "int image(int)", "int restore(int)",
        "int told(int)");

    private static final String[] FORBIDDEN = {
        "\\bthrow\\b", "\\bthrows\\b", "\\btry\\b", "\\bcatch\\b", "\\bsynchronized\\b", "\\bassert\\b", "->", "::",
        "\\bnative\\b", "\\bvolatile\\b", "Exact\\b", "\\bpackage\\b", "\\bprotected\\b", "\\bObject\\b",
        "while \\(true\\)", "for \\(;;\\)", "\\bstatic \\{"};

    public static void main(String[] args) throws IOException {
        constants();
        methods();
        members();
        nested();
        text();
        due.end();
    }

    private static void constants() {
        due.is("UNKNOWN", LanternSteps.UNKNOWN, -1);
        due.is("OUTSIDE", LanternSteps.OUTSIDE, -2);
        due.is("STATE", LanternSteps.STATE, -3);
        due.is("FULL", LanternSteps.FULL, -4);
        due.is("NO", LanternSteps.NO, -5);
        due.is("NONE", LanternSteps.NONE, -6);
        due.is("GONE", LanternSteps.GONE, -1000000000000000000L);
        due.holds("the class is public and final",
            (LanternSteps.class.getModifiers() & (Modifier.PUBLIC | Modifier.FINAL)) == (Modifier.PUBLIC | Modifier.FINAL));
    }

    private static void methods() {
        Set<String> found = new TreeSet<>();
        for (Method method : LanternSteps.class.getDeclaredMethods()) {
            if (Modifier.isPublic(method.getModifiers())) {
                StringBuilder told = new StringBuilder(method.getReturnType() + " " + method.getName() + "(");
                for (Class<?> type : method.getParameterTypes()) {
                    told.append(told.charAt(told.length() - 1) == '(' ? "" : ",").append(type);
                }
                found.add(told.append(")").toString());
            }
        }
        for (String method : FACE) {
            due.holds("there is " + method, found.contains(method));
        }
        due.is("public methods", found.size(), FACE.size());
    }

    private static void members() {
        Set<String> open = new TreeSet<>();
        for (Method method : LanternSteps.class.getDeclaredMethods()) {
            if (Modifier.isPublic(method.getModifiers())) {
                open.add(method.getName());
            }
        }
        for (Method method : LanternSteps.class.getDeclaredMethods()) {
            if (!Modifier.isPublic(method.getModifiers())) {
                due.holds(method + " is private", Modifier.isPrivate(method.getModifiers()));
                due.holds(method + " bears no public name", !open.contains(method.getName()));
            }
        }
        Set<String> constants = Set.of("UNKNOWN", "OUTSIDE", "STATE", "FULL", "NO", "NONE", "GONE");
        for (Field field : LanternSteps.class.getDeclaredFields()) {
            boolean isPublic = Modifier.isPublic(field.getModifiers());
            due.holds(field + " is as in the face", isPublic == constants.contains(field.getName()));
            due.holds(field + " is public or private", isPublic || Modifier.isPrivate(field.getModifiers()));
            due.holds(field + " is final if static",
                !Modifier.isStatic(field.getModifiers()) || Modifier.isFinal(field.getModifiers()));
        }
        Constructor<?>[] constructors = LanternSteps.class.getDeclaredConstructors();
        due.is("constructors", constructors.length, 1);
        due.holds("a public one", Modifier.isPublic(constructors[0].getModifiers()));
    }

    private static void nested() {
        Class<?>[] classes = LanternSteps.class.getDeclaredClasses();
        due.holds("twelve classes at most", classes.length < 12);
        for (Class<?> inner : classes) {
            due.holds(inner + " is static", Modifier.isStatic(inner.getModifiers()));
            due.holds(inner + " is not public", !Modifier.isPublic(inner.getModifiers()));
            due.holds(inner + " has few fields", inner.getDeclaredFields().length <= 20);
            for (Method method : inner.getDeclaredMethods()) {
                due.holds(method + " has seven parameters at most", method.getParameterCount() <= 7);
            }
        }
    }

    private static void text() throws IOException {
        Path path = Path.of(System.getProperty("project", "."), "src/main/java/LanternSteps.java");
        String whole = Files.readString(path);
        String code = whole.replaceAll("(?s)/\\*.*?\\*/", "").replaceAll("//[^\n]*", "");
        for (String word : FORBIDDEN) {
            Matcher matcher = Pattern.compile(word).matcher(code);
            due.holds("no " + word, !matcher.find());
        }
        List<String> imports = Arrays.stream(whole.split("\n")).filter(line -> line.startsWith("import")).toList();
        due.holds("Arrays alone is imported", imports.equals(List.of("import java.util.Arrays;")));
        due.holds("plain signs alone", whole.chars().allMatch(sign -> sign == '\n' || sign >= 32 && sign < 127));
        methodLengths(code.split("\n"));
    }

    private static void methodLengths(String[] lines) {
        int start = -1;
        String indent = "";
        for (int i = 0; i < lines.length; i++) {
            Matcher head = Pattern.compile("^( {4}| {8})[A-Za-z].*\\) \\{$").matcher(lines[i]);
            boolean isHead = head.matches() && !lines[i].trim().matches("(if|for|while|switch)\\b.*");
            if (start < 0 && isHead) {
                start = i;
                indent = head.group(1);
            } else if (start >= 0 && lines[i].equals(indent + "}")) {
                due.holds("short enough: " + lines[start].trim(), i - start < 60);
                start = -1;
            }
        }
        due.is("the last method has an end", start, -1);
    }
}
