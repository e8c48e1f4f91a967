import java.io.PrintWriter;
import java.io.StringWriter;
import java.nio.file.Path;
import java.util.ArrayList;
import java.util.HashMap;
import java.util.List;
import java.util.Map;
import java.util.Set;
import java.util.TreeSet;
import java.util.regex.Matcher;
import java.util.regex.Pattern;
import java.util.spi.ToolProvider;

/** That the class has no recursion and that its calls go at most eight deep, the library's own counted. */
public final class CallsTest {
    private static final int DEEP = 8;
    private static final Pattern HEAD = Pattern.compile("^  (?:.* )?([\\w$]+)\\([^)]*\\);$");
    private static final Pattern CALL = Pattern.compile("// (?:Interface)?Method (\\S+):");
    private final Map<String, Set<String>> calls = new HashMap<>();
    private int wrong = 0;

    private CallsTest() {
    }

    public static void main(String[] args) throws Exception {
        CallsTest test = new CallsTest();
        List<Class<?>> classes = new ArrayList<>(List.of(LuckLinks.class.getDeclaredClasses()));
        classes.add(LuckLinks.class);
        for (Class<?> one : classes) {
            test.read(one);
        }
        int deepest = 0;
        for (String method : new TreeSet<>(test.calls.keySet())) {
            deepest = Math.max(deepest, test.depth(method, List.of()));
        }
        System.out.println("CallsTest: " + test.calls.size() + " methods, " + deepest + " deep, " + test.wrong + " things wrong");
        if (test.wrong > 0 || deepest > DEEP || test.calls.size() < 100) {
            System.exit(1);
        }
    }

    private void read(Class<?> one) throws Exception {
        Path file = Path.of(one.getResource(one.getName() + ".class").toURI());
        StringWriter out = new StringWriter();
        ToolProvider javap = ToolProvider.findFirst("javap").orElseThrow();
        javap.run(new PrintWriter(out), new PrintWriter(out), "-c", "-p", file.toString());
        String method = "";
        for (String line : out.toString().split("\\R")) {
            Matcher head = HEAD.matcher(line);
            Matcher call = CALL.matcher(line);
            if (head.find()) {
                boolean isNew = head.group(1).equals(one.getName());
                method = one.getName() + "." + (isNew ? "\"<init>\"" : head.group(1));
                calls.putIfAbsent(method, new TreeSet<>());
            } else if (call.find() && !method.isEmpty()) {
                String called = call.group(1);
                calls.get(method).add(called.contains(".") ? called : one.getName() + "." + called);
            }
        }
    }

    private int depth(String method, List<String> open) {
        if (open.contains(method)) {
            wrong++;
            System.out.println(method + " calls itself by way of " + open);
            return 0;
        }
        List<String> now = new ArrayList<>(open);
        now.add(method);
        if (now.size() > DEEP) {
            System.out.println("too deep: " + now);
        }
        int below = 0;
        for (String called : calls.getOrDefault(method, Set.of())) {
            below = Math.max(below, depth(called, now));
        }
        return 1 + below;
    }
}
