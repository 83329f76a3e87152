import java.io.IOException;
import java.lang.reflect.Constructor;
import java.lang.reflect.Field;
import java.lang.reflect.Method;
import java.lang.reflect.Modifier;
import java.nio.file.Files;
import java.nio.file.Path;
import java.util.Set;
import java.util.TreeSet;

/** The face of the class, and what of LANGUAGE.md can be seen from outside. */
public final class FaceTest {
    private static final String[] FACE = {
        "int walker(int,int)", "int way(int,int,int)", "int mend(int,int,int)", "int of(int,int)", "int place(int,int)",
        "int feed(int)", "int law()", "int holding(int)", "int day(int,int)", "int where(int,int,int)", "int sees(int,int,int)",
        "int takes(int,int)", "int meet(int,int)", "int sure(int,int)", "int follow(int,int)", "int read(int,int)",
        "int look(int)", "int cheapest(int,int,int)", "int guard(int,int)", "int shoes(int,int)", "int feigned(int,int,int)",
        "int flood(int,int,int)", "int drawn(int,int,int)", "int live(int)", "int step(int,int)", "int led(int)", "int image()",
        "int back()", "int undo()", "int redo()", "int body(int)", "int act(int,int,int)", "int trace(int)",
        "int keep(int,int)", "int row(int,int,int)", "int put(int,int,long)", "long element(int,int)",
        "int shift(int,int,int,int,int)", "int taken(int,int)", "int count(int)",
    };
    private static final String[] BANNED = {
        "\\bthrows?\\b", "\\btry\\b", "\\bcatch\\b", "\\bsynchronized\\b", "\\bassert\\b", "->", "::", "\\bSystem\\.out\\b",
        "Exact\\(", "\\bequals\\(", "\\bhashCode\\(", "\\btoString\\(", "\\brandom\\b", "\\bpackage\\b", "\\bprotected\\b",
    };
    private static final Due due = new Due("FaceTest");

    public static void main(String[] args) throws IOException {
        constants();
        methods();
        hidden();
        source();
        due.end();
    }

    private static void constants() {
        due.is("BAD", FootstepsAhead.BAD, -1);
        due.is("NOT", FootstepsAhead.NOT, -2);
        due.is("FULL", FootstepsAhead.FULL, -3);
        due.is("STATE", FootstepsAhead.STATE, -5);
        due.is("VOID", FootstepsAhead.VOID, -2000000000);
    }

    private static void methods() {
        Set<String> found = new TreeSet<>();
        for (Method method : FootstepsAhead.class.getDeclaredMethods()) {
            if (Modifier.isPublic(method.getModifiers())) {
                StringBuilder text = new StringBuilder(method.getReturnType() + " " + method.getName() + "(");
                for (Class<?> type : method.getParameterTypes()) {
                    text.append(text.charAt(text.length() - 1) == '(' ? "" : ",").append(type);
                }
                found.add(text + ")");
            }
        }
        for (String method : FACE) {
            due.is(method, found.contains(method) ? 1 : 0, 1);
        }
        due.is("methods", found.size(), FACE.length);
    }

    private static void hidden() {
        due.is("public and final", FootstepsAhead.class.getModifiers(), Modifier.PUBLIC | Modifier.FINAL);
        due.is("constructors", FootstepsAhead.class.getDeclaredConstructors().length, 1);
        Constructor<?> only = FootstepsAhead.class.getDeclaredConstructors()[0];
        due.is("public constructor", only.getModifiers(), Modifier.PUBLIC);
        due.is("no arguments", only.getParameterCount(), 0);
        Set<String> names = new TreeSet<>();
        for (Method method : FootstepsAhead.class.getDeclaredMethods()) {
            int how = method.getModifiers();
            due.is(method.getName() + " is public or private", Modifier.isPublic(how) || Modifier.isPrivate(how) ? 1 : 0, 1);
            due.is(method.getName() + " has one meaning", names.add(method.getName()) ? 1 : 0, 1);
        }
        int open = 0;
        for (Field field : FootstepsAhead.class.getDeclaredFields()) {
            int how = field.getModifiers();
            open += Modifier.isPublic(how) ? 1 : 0;
            due.is(field.getName() + " is public or private", Modifier.isPublic(how) || Modifier.isPrivate(how) ? 1 : 0, 1);
            due.is(field.getName() + " is final", Modifier.isFinal(how) ? 1 : 0, 1);
        }
        due.is("public fields", open, 5);
        due.is("classes", FootstepsAhead.class.getDeclaredClasses().length <= 12 ? 1 : 0, 1);
        for (Class<?> inside : FootstepsAhead.class.getDeclaredClasses()) {
            due.is(inside.getName() + " is static", Modifier.isStatic(inside.getModifiers()) ? 1 : 0, 1);
            due.is(inside.getName() + " is hidden", Modifier.isPublic(inside.getModifiers()) ? 1 : 0, 0);
            due.is(inside.getName() + " has some twenty fields", inside.getDeclaredFields().length <= 30 ? 1 : 0, 1);
            for (Method method : inside.getDeclaredMethods()) {
                due.is(inside.getName() + "'s " + method.getName(), names.contains(method.getName()) ? 1 : 0, 0);
                due.is(method.getName() + " has up to seven", method.getParameterCount() <= 7 ? 1 : 0, 1);
            }
        }
    }

    private static void source() throws IOException {
        String text = Files.readString(Path.of("src/main/java/FootstepsAhead.java"));
        String code = text.replaceAll("(?s)/\\*.*?\\*/", "").replaceAll("//[^\n]*", "");
        for (String banned : BANNED) {
            due.is("no " + banned, java.util.regex.Pattern.compile(banned).matcher(code).find() ? 1 : 0, 0);
        }
        int imports = 0;
        for (String line : code.split("\n")) {
            imports += line.startsWith("import ") && !line.equals("import java.util.Arrays;") ? 1 : 0;
        }
        due.is("imports but Arrays", imports, 0);
        due.is("signs 1 to 127", text.chars().allMatch(c -> c > 0 && c < 128) ? 1 : 0, 1);
    }
}
