import java.io.IOException;
import java.lang.management.ManagementFactory;
import java.lang.reflect.Field;
import java.lang.reflect.Method;
import java.lang.reflect.Modifier;
import java.nio.file.Files;
import java.nio.file.Path;
import java.util.ArrayList;
import java.util.HashMap;
import java.util.HashSet;
import java.util.List;
import java.util.Map;
import java.util.Random;
import java.util.Set;
import java.util.regex.Matcher;
import java.util.regex.Pattern;

/**
 * What LANGUAGE.md asks of the file (of its face: FaceTest), and that no call throws or makes objects.
 * Run from the project's folder.
 */
public final class RulesTest {
    private static final Check CHECK = new Check();
    private static final int[] EDGES = {Integer.MIN_VALUE, -1000, -2, -1, 0, 1, 2, 3, 4, 5, 6, 7, 8, 9, 10, 11, 27, 28,
        39, 40, 41, 255, 256, 1023, 1024, Integer.MAX_VALUE};

    public static void main(String[] args) throws Exception {
        members();
        source();
        neverThrows();
        makesNothing();
        CHECK.end();
    }

    private static void members() throws IOException {
        Set<String> face = new HashSet<>();
        for (String head : new Face().heads) {
            face.add(Face.nameOf(head));
        }
        List<Class<?>> all = new ArrayList<>(List.of(WeightedLaws.class.getDeclaredClasses()));
        CHECK.due("at most twelve classes", all.size() < 12);
        for (Class<?> inside : all) {
            CHECK.due(inside + " is static and not public", Modifier.isStatic(inside.getModifiers())
                && !Modifier.isPublic(inside.getModifiers()) && !Modifier.isProtected(inside.getModifiers()));
        }
        all.add(WeightedLaws.class);
        for (Class<?> any : all) {
            int fields = 0;
            for (Field field : any.getDeclaredFields()) {
                boolean isStatic = Modifier.isStatic(field.getModifiers());
                CHECK.due(field + " is final, if static", !isStatic || Modifier.isFinal(field.getModifiers()));
                fields += isStatic ? 0 : 1;
            }
            CHECK.due(any + " has at most twenty fields", fields <= 20);
            for (Method method : any.getDeclaredMethods()) {
                boolean own = any != WeightedLaws.class || Modifier.isPrivate(method.getModifiers());
                CHECK.due(method + " bears no public name", !own || !face.contains(method.getName()));
                CHECK.due(method + " has at most seven parameters", method.getParameterCount() <= 7);
            }
        }
    }

    private static void source() throws IOException {
        String file = Files.readString(Path.of("src/main/java/WeightedLaws.java"));
        String bare = file.replaceAll("(?s)/\\*.*?\\*/", "").replaceAll("//[^\n]*", "");
        String code = bare.replaceAll("'.'|'\\\\.'", "'s'");
        for (String word : new String[] {"throw", "throws", "try", "catch", "finally", "synchronized", "assert",
            "instanceof", "package", "System\\.out", "Exact", "Random", "nanoTime", "currentTimeMillis", "Object",
            "equals", "hashCode", "toString", "protected", "static\\s*\\{"}) {
            String whole = "\\b" + word + (word.endsWith("{") ? "" : "\\b");
            CHECK.due("no " + word, !Pattern.compile(whole).matcher(code).find());
        }
        CHECK.due("no lambda", !code.contains("->"));
        CHECK.due("no method reference", !code.contains("::"));
        CHECK.due("no texts", !code.contains("\""));
        Matcher imports = Pattern.compile("import ([^;]*);").matcher(code);
        while (imports.find()) {
            CHECK.due("import " + imports.group(1), imports.group(1).equals("java.util.Arrays"));
        }
        methods(code);
    }

    /** Lengths of methods, and how deep their calls go. */
    private static void methods(String code) {
        Map<String, Set<String>> calls = new HashMap<>();
        Map<String, String> bodies = new HashMap<>();
        Matcher heads = Pattern.compile("\n( {4}| {8})(?:public |private )?(?:static )?(?:int|long|boolean|void) (\\w+)"
            + "\\([^)]*\\) \\{\n").matcher(code);
        while (heads.find()) {
            int end = code.indexOf("\n" + heads.group(1) + "}\n", heads.end() - 1);
            String body = code.substring(heads.end() - 1, Math.max(end, heads.end()));
            long lines = body.chars().filter(sign -> sign == '\n').count();
            CHECK.due(heads.group(2) + " is short: " + lines, lines <= 60);
            bodies.merge(heads.group(2), body, String::concat);
        }
        CHECK.due("methods are found", bodies.size() > 100);
        for (String name : bodies.keySet()) {
            Set<String> called = new HashSet<>();
            Matcher names = Pattern.compile("\\b(\\w+)\\(").matcher(bodies.get(name));
            while (names.find()) {
                if (bodies.containsKey(names.group(1))) {
                    called.add(names.group(1));
                }
            }
            calls.put(name, called);
        }
        for (String name : calls.keySet()) {
            int depth = depth(name, calls, 0);
            CHECK.due(name + " calls at most eight deep: " + depth, depth <= 8);
        }
    }

    private static int depth(String name, Map<String, Set<String>> calls, int above) {
        int most = 1;
        for (String called : above > 20 ? Set.<String>of() : calls.get(name)) {
            most = Math.max(most, 1 + depth(called, calls, above + 1));
        }
        return most;
    }

    private static void neverThrows() throws Exception {
        List<Method> methods = new ArrayList<>();
        for (Method method : WeightedLaws.class.getDeclaredMethods()) {
            if (Modifier.isPublic(method.getModifiers())) {
                methods.add(method);
            }
        }
        methods.sort((a, b) -> a.getName().compareTo(b.getName()));
        Random random = new Random(7);
        for (int run = 0; run < 40; run++) {
            WeightedLaws w = run % 2 == 0 ? new WeightedLaws() : wide();
            for (int i = 0; i < 400; i++) {
                callAny(w, methods.get(random.nextInt(methods.size())), random);
            }
        }
    }

    private static void callAny(WeightedLaws w, Method method, Random random) {
        Object[] values = new Object[method.getParameterCount()];
        StringBuilder call = new StringBuilder(method.getName());
        for (int i = 0; i < values.length; i++) {
            values[i] = EDGES[random.nextInt(EDGES.length)];
            call.append(' ').append(values[i]);
        }
        String thrown = "nothing";
        try {
            method.invoke(w, values);
        } catch (ReflectiveOperationException e) {
            thrown = String.valueOf(e.getCause());
        }
        CHECK.due(call + " threw " + thrown, thrown.equals("nothing"));
    }

    /** As much as an object holds: ten SOUGHT SAYINGS, eight LAWS of six parts, all ROWS full. */
    private static WeightedLaws wide() {
        WeightedLaws w = new WeightedLaws();
        w.names(4);
        for (int s = 0; s < 10; s++) {
            w.tell(s, 3);
        }
        for (int s = 10; s < 28; s++) {
            w.tell(s, 1 + s % 2);
        }
        for (int k = 0; k < 8; k++) {
            Check.law(w, k, k % 2 == 0 ? "Ax|!By|Cx|Fxy|!Fyx|Ay" : "!Ax|By|!Cx|Ax|Fxx|!Fyx", 2, 1 + k);
        }
        for (int r = 0; r < 6; r++) {
            w.row(r, 40);
        }
        return w;
    }

    private static void callAll(WeightedLaws w) {
        w.lay(0, 1, 3);
        w.copy(0, 0, 1, 1, 5);
        w.mean(0);
        w.put(3, 0, 65);
        w.fault(3, 2);
        w.law(7, 3, 2, 3);
        w.told(7, 2);
        w.mark(7, 2);
        w.tell(0, 1);
        w.tell(0, 3);
        w.cost(5);
        w.broken(3, 5);
        w.likeliest();
        w.near(5);
        w.odds(1);
        w.both(1, 2);
        w.given(1, 2);
        w.alike(0, 1);
        w.draw(1, 200, 1);
        w.learn(1023, 7, 1);
        w.pull(0, 1);
        w.why(1);
        w.why(11);
        w.otherwise(11, 2, 1);
        w.act(1, 2);
        w.look(1, 2, 3);
        w.wrong();
        w.held(2, 0);
        w.count(3);
        w.digest();
        w.drop(9);
        w.drop(7);
    }

    private static void makesNothing() {
        com.sun.management.ThreadMXBean bean =
            (com.sun.management.ThreadMXBean) ManagementFactory.getThreadMXBean();
        WeightedLaws w = wide();
        callAll(w);
        long id = Thread.currentThread().getId();
        bean.getThreadAllocatedBytes(id);
        long before = bean.getThreadAllocatedBytes(id);
        callAll(w);
        long made = bean.getThreadAllocatedBytes(id) - before;
        CHECK.due("calls make no objects: " + made + " bytes", made < 1000);
        before = bean.getThreadAllocatedBytes(id);
        WeightedLaws another = new WeightedLaws();
        made = bean.getThreadAllocatedBytes(id) - before;
        CHECK.due("an object is small: " + made + " bytes", made < 60000 && another.asked() == 0);
    }
}
