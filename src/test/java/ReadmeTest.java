import java.io.IOException;
import java.lang.reflect.Method;
import java.lang.reflect.Modifier;
import java.nio.file.Files;
import java.nio.file.Path;
import java.util.regex.Matcher;
import java.util.regex.Pattern;

/** README.md tells the truth: its run of calls answers as it says, and it names each call and each test. */
public final class ReadmeTest {
    private static final Pattern CALL = Pattern.compile("^snow\\.(\\w+)\\(([^)]*)\\); +// (-?\\d+)(:.*)?$");
    private static final Due due = new Due("ReadmeTest");

    public static void main(String[] args) throws Exception {
        String readme = Files.readString(Path.of("README.md"));
        due.is("calls of its run", run(readme) >= 30 ? 1 : 0, 1);
        callsAreNamed(readme);
        testsAreNamed(readme);
        due.end();
    }

    private static int run(String readme) throws Exception {
        int from = readme.indexOf("```java\n") + 8;
        String[] lines = readme.substring(from, readme.indexOf("```", from)).split("\n");
        due.is("its run begins with a new object", lines[0].endsWith("= new FootstepsAhead();") ? 1 : 0, 1);
        FootstepsAhead snow = new FootstepsAhead();
        int calls = 0;
        for (int i = 1; i < lines.length; i++) {
            Matcher call = CALL.matcher(lines[i]);
            if (call.matches()) {
                calls++;
                due.is(call.group(1) + "(" + call.group(2) + ")", answer(snow, call), Long.parseLong(call.group(3)));
            } else {
                due.is("a call with its answer: " + lines[i], lines[i].isEmpty() ? 1 : 0, 1);
            }
        }
        return calls;
    }

    private static long answer(FootstepsAhead snow, Matcher call) throws Exception {
        String[] told = call.group(2).isEmpty() ? new String[0] : call.group(2).split(", ");
        for (Method method : FootstepsAhead.class.getDeclaredMethods()) {
            if (Modifier.isPublic(method.getModifiers()) && method.getName().equals(call.group(1))) {
                Class<?>[] types = method.getParameterTypes();
                Object[] values = new Object[types.length];
                for (int i = 0; i < types.length && types.length == told.length; i++) {
                    int value = told[i].startsWith("'") ? told[i].charAt(1) : Integer.parseInt(told[i]);
                    values[i] = types[i] == long.class ? (Object) Long.valueOf(value) : (Object) Integer.valueOf(value);
                }
                return types.length == told.length ? ((Number) method.invoke(snow, values)).longValue() : VOIDED;
            }
        }
        return VOIDED;
    }

    /** No answer of the class. */
    private static final long VOIDED = Long.MAX_VALUE;

    private static void callsAreNamed(String readme) {
        for (Method method : FootstepsAhead.class.getDeclaredMethods()) {
            if (Modifier.isPublic(method.getModifiers())) {
                due.is(method.getName() + " is named", readme.contains("`" + method.getName() + "`") ? 1 : 0, 1);
            }
        }
    }

    private static void testsAreNamed(String readme) throws IOException {
        try (java.nio.file.DirectoryStream<Path> tests = Files.newDirectoryStream(Path.of("src", "test", "java"), "*Test.java")) {
            for (Path test : tests) {
                String name = test.getFileName().toString().replace(".java", "");
                due.is(name + " is named", readme.contains("`" + name + "`") ? 1 : 0, 1);
            }
        }
    }
}
