import java.io.PrintWriter;
import java.io.StringWriter;
import java.util.ArrayList;
import java.util.HashMap;
import java.util.LinkedHashMap;
import java.util.List;
import java.util.Map;
import java.util.Set;
import java.util.TreeSet;
import java.util.regex.Matcher;
import java.util.regex.Pattern;
import java.util.spi.ToolProvider;

/** The rules of ../shared/LANGUAGE.md that can be seen in what javac makes: the library used, and how deep calls go. */
public final class BytecodeTest {
    private static final int DEEPEST = 8;
    private static final Set<String> LIBRARY = Set.of("java/lang/Object.<init>", "java/lang/StringBuilder.<init>",
        "java/lang/StringBuilder.append", "java/lang/StringBuilder.charAt", "java/lang/StringBuilder.length",
        "java/lang/StringBuilder.setLength", "java/lang/String.charAt", "java/lang/String.length",
        "java/util/ArrayList.<init>", "java/util/ArrayList.add", "java/util/ArrayList.get", "java/util/ArrayList.remove",
        "java/util/ArrayList.size", "java/util/ArrayList.clear", "java/lang/Math.max", "java/lang/Math.min",
        "java/lang/Integer.bitCount", "java/lang/System.arraycopy", "java/util/Arrays.copyOf");
    // What throw, catch, synchronized, lambdas and joined texts become.
    private static final Pattern FORBIDDEN = Pattern.compile("\\b(athrow|invokedynamic|monitorenter)\\b|Exception table");
    private static final Pattern METHOD = Pattern.compile("^  \\S.*?([\\w$]+)\\([^)]*\\);$");
    private static final Pattern CALL = Pattern.compile("// (?:Interface)?Method (?:([\\w/$]+)\\.)?\"?([\\w<>]+)\"?:");

    private final Map<String, Set<String>> calls = new LinkedHashMap<>();
    private final Map<String, Integer> depths = new HashMap<>();
    private boolean wrong = false;

    public static void main(String[] args) {
        BytecodeTest test = new BytecodeTest();
        List<Class<?>> classes = new ArrayList<>(List.of(PlaceRegister.class.getDeclaredClasses()));
        classes.add(PlaceRegister.class);
        for (Class<?> one : classes) {
            test.read(one.getName());
        }
        int deepest = 0;
        for (String method : test.calls.keySet()) {
            deepest = Math.max(deepest, test.depth(method, ""));
        }
        test.hold(test.calls.size() > 100, "only " + test.calls.size() + " methods were read");
        test.hold(deepest <= DEEPEST, "calls go " + deepest + " deep");
        if (test.wrong) {
            System.exit(1);
        }
        System.out.println("no library beyond the rules, no recursion, and calls go " + deepest + " deep");
    }

    private void hold(boolean held, String what) {
        if (!held) {
            wrong = true;
            System.out.println("broken: " + what);
        }
    }

    private void read(String name) {
        StringWriter text = new StringWriter();
        int failed = ToolProvider.findFirst("javap").orElseThrow().run(new PrintWriter(text, true),
            new PrintWriter(System.out, true), "-c", "-p", "-cp", System.getProperty("java.class.path"), name);
        hold(failed == 0, "javap of " + name);
        Set<String> ofMethod = new TreeSet<>();
        for (String line : text.toString().split("\n")) {
            hold(!FORBIDDEN.matcher(line).find(), name + ": " + line.strip());
            Matcher method = METHOD.matcher(line);
            if (method.matches()) {
                String own = method.group(1).equals(name) ? "<init>" : method.group(1);
                ofMethod = calls.computeIfAbsent(name + "." + own, key -> new TreeSet<>());
            }
            Matcher call = CALL.matcher(line);
            if (call.find()) {
                String owner = call.group(1) == null ? name : call.group(1);
                String called = owner + "." + call.group(2);
                if (owner.startsWith("PlaceRegister")) {
                    ofMethod.add(called);
                } else {
                    hold(LIBRARY.contains(called), name + " uses " + called);
                }
            }
        }
    }

    /** How many methods stand open at most when this one is called; the path tells those that stand open already. */
    private int depth(String method, String path) {
        if (path.contains(" " + method + " ")) {
            hold(false, "recursion:" + path + method);
            return 0;
        }
        Integer known = depths.get(method);
        if (known != null) {
            return known;
        }
        int below = 0;
        for (String called : calls.getOrDefault(method, Set.of())) {
            below = Math.max(below, depth(called, path + " " + method + " "));
        }
        depths.put(method, below + 1);
        return below + 1;
    }
}
