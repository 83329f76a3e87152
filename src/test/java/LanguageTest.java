import java.io.IOException;
import java.lang.reflect.Array;
import java.lang.reflect.Field;
import java.lang.reflect.Method;
import java.lang.reflect.Modifier;
import java.nio.file.Path;
import java.util.ArrayList;
import java.util.Collections;
import java.util.IdentityHashMap;
import java.util.List;
import java.util.Set;

/** LANGUAGE.md, as far as the compiled classes, the text and an object's room show it. */
public final class LanguageTest {
    private static final Set<String> LIBRARY = Set.of(
        "java/lang/Object.<init>", "java/lang/System.arraycopy", "java/util/Arrays.fill", "java/lang/Integer.bitCount",
        "java/lang/Math.floorMod", "java/lang/Math.max", "java/lang/Math.min");
    private static final Set<Class<?>> CONSTANTS = Set.of(
        int.class, long.class, boolean.class, char.class, String.class, int[].class, long[].class, char[].class, byte[].class);
    private static final Due due = new Due("LanguageTest");

    public static void main(String[] args) throws Exception {
        library();
        fields();
        text();
        room();
        due.end();
    }

    private static List<Class<?>> classes() {
        List<Class<?>> all = new ArrayList<>(List.of(FootstepsAhead.class.getDeclaredClasses()));
        all.add(FootstepsAhead.class);
        return all;
    }

    /** Rules 2, 4: no library but the list's, and no lambdas. */
    private static void library() throws IOException {
        for (Class<?> one : classes()) {
            CompiledClass compiled = new CompiledClass(one);
            due.is(one.getName() + " has lambdas", compiled.strange, 0);
            for (String use : compiled.uses) {
                boolean fine = use.startsWith("FootstepsAhead") || LIBRARY.contains(use);
                due.is(one.getName() + " uses " + use, fine ? 1 : 0, 1);
            }
        }
    }

    /** Rules 3, 5, 11: what fields hold, that no state is static, how many there are. */
    private static void fields() {
        due.is("some twelve classes", classes().size() <= 12 ? 1 : 0, 1);
        for (Class<?> one : classes()) {
            int own = 0;
            for (Field field : one.getDeclaredFields()) {
                String name = one.getName() + "." + field.getName();
                if (Modifier.isStatic(field.getModifiers())) {
                    due.is(name + " is final", Modifier.isFinal(field.getModifiers()) ? 1 : 0, 1);
                    due.is(name + " is a constant", CONSTANTS.contains(field.getType()) ? 1 : 0, 1);
                } else {
                    own++;
                    due.is(name + " is of a type that may be", mayBe(field.getType()) ? 1 : 0, 1);
                }
            }
            due.is(one.getName() + " has some twenty fields", own <= 20 ? 1 : 0, 1);
            due.is(one.getName() + " has no class inside", one == FootstepsAhead.class ? 0 : one.getDeclaredClasses().length, 0);
            for (Method method : one.getDeclaredMethods()) {
                due.is(method + " takes seven at most", method.getParameterCount() <= 7 ? 1 : 0, 1);
                due.is(method + " is written here", method.isSynthetic() ? 1 : 0, 0);
            }
        }
    }

    private static boolean mayBe(Class<?> type) {
        if (!type.isArray()) {
            return type.isPrimitive() || classes().contains(type);
        }
        Class<?> of = type.getComponentType();
        return mayBe(of) && (!of.isArray() || of.getComponentType().isPrimitive());
    }

    /** Rules 11, 12: short methods, eight calls deep, nothing made behind the constructors. */
    private static void text() throws IOException {
        SourceMethods source = new SourceMethods(Path.of("src/main/java/FootstepsAhead.java"));
        int expected = 0;
        Set<String> constructors = new java.util.TreeSet<>();
        for (Class<?> one : classes()) {
            constructors.add(one.getSimpleName());
            expected += one.getDeclaredMethods().length;
        }
        int methods = 0;
        for (String name : source.names) {
            methods += constructors.contains(name) ? 0 : 1;
            due.is(name + " is short", source.lines(name) <= 60 ? 1 : 0, 1);
            due.is(name + " makes nothing", !constructors.contains(name) && source.makes(name) ? 1 : 0, 0);
        }
        due.is("methods found in the text", methods, expected);
        int deepest = source.deepest();
        due.is("calls are eight deep at most: " + deepest, deepest <= 8 ? 1 : 0, 1);
    }

    /** All calls of a run live in one room: an object takes little of it, and no more behind 512 calls. */
    private static void room() throws Exception {
        FootstepsAhead x = new FootstepsAhead();
        long[] before = measured(x);
        due.is("objects: " + before[0], before[0] <= 300 ? 1 : 0, 1);
        due.is("fields and elements: " + before[1], before[1] <= 14000 ? 1 : 0, 1);
        for (int i = 0; i < 5; i++) {
            Due.walker(x, 0, 0, i);
            for (int way = 1; way < 4; way++) {
                Due.way(x, i, way, 0, i);
            }
        }
        Due.law(x, "n>1?s;k");
        Due.row(x, 0, 1, 0, 0, 1);
        for (int i = 0; i < 40; i++) {
            x.mend(i % 5, 0, i);
            x.look(0);
            x.guard(31, 0);
            x.live(0);
            x.step(i % 5, i % 4);
            x.image();
            x.body(i % 8);
            x.act(i, i % 4, i);
        }
        x.shoes(0, 0);
        x.drawn(1, 20, 0);
        long[] behind = measured(x);
        due.is("objects behind many calls", behind[0], before[0]);
        due.is("fields and elements behind many calls", behind[1], before[1]);
    }

    /** How many objects and arrays, and how many fields and elements in all. */
    private static long[] measured(Object from) throws Exception {
        Set<Object> met = Collections.newSetFromMap(new IdentityHashMap<>());
        List<Object> open = new ArrayList<>(List.of(from));
        long[] sum = {0, 0};
        while (!open.isEmpty()) {
            Object one = open.remove(open.size() - 1);
            if (one == null || !met.add(one)) {
                continue;
            }
            sum[0]++;
            if (one.getClass().isArray()) {
                sum[1] += Array.getLength(one);
                for (int i = 0; i < Array.getLength(one) && !one.getClass().getComponentType().isPrimitive(); i++) {
                    open.add(Array.get(one, i));
                }
                continue;
            }
            for (Field field : one.getClass().getDeclaredFields()) {
                if (!Modifier.isStatic(field.getModifiers())) {
                    sum[1]++;
                    field.setAccessible(true);
                    if (!field.getType().isPrimitive()) {
                        open.add(field.get(one));
                    }
                }
            }
        }
        return sum;
    }
}
