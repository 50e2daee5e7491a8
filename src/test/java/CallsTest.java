import java.io.PrintWriter;
import java.io.StringWriter;
import java.util.ArrayList;
import java.util.List;
import java.util.Map;
import java.util.Optional;
import java.util.Set;
import java.util.TreeMap;
import java.util.TreeSet;
import java.util.regex.Matcher;
import java.util.regex.Pattern;
import java.util.spi.ToolProvider;

/** The rules of LANGUAGE.md that are seen from what calls what: rules 4, 8, 11 and 12. */
public final class CallsTest {
    private static final Set<String> LIBRARY = Set.of("java/lang/Object.<init>", "java/lang/Math.max",
        "java/lang/Math.min", "java/lang/Integer.bitCount", "java/lang/System.arraycopy", "java/lang/String.length",
        "java/lang/String.charAt", "java/lang/String.indexOf", "java/lang/IllegalArgumentException.<init>",
        "java/util/NoSuchElementException.<init>");
    private static final Set<String> EXPRESSION = Set.of("readExpression", "readAnd", "readNot", "readTest", "readSum",
        "readProduct", "readPart");
    private static final Pattern HEAD = Pattern.compile("  (?:[a-z].*? )?([\\w$]+)\\(.*;");
    private static final Pattern CALL = Pattern.compile(".*: invoke\\w+ .*// (?:Interface)?Method ([^:]*):.*");
    private static final Pattern STEP = Pattern.compile(" +\\d+: (\\w+).*");

    private final Map<String, Set<String>> calls = new TreeMap<>();
    private final Map<String, Integer> depths = new TreeMap<>();

    public static void main(String[] args) {
        Optional<ToolProvider> javap = ToolProvider.findFirst("javap");
        if (javap.isPresent()) {
            CallsTest test = new CallsTest();
            test.read(javap.get(), WavingDesks.class);
            for (Class<?> inside : WavingDesks.class.getDeclaredClasses()) {
                test.read(javap.get(), inside);
            }
            test.callsGoEightDeep();
            test.recursionIsOfExpressionsAlone();
        }
        Due.end("CallsTest");
    }

    private void read(ToolProvider javap, Class<?> of) {
        StringWriter out = new StringWriter();
        javap.run(new PrintWriter(out), new PrintWriter(out), "-c", "-p", "-cp", System.getProperty("java.class.path"),
            of.getName());
        String method = "";
        for (String row : out.toString().split("\n")) {
            Matcher head = HEAD.matcher(row);
            Matcher step = STEP.matcher(row);
            if (head.matches()) {
                String name = head.group(1).equals(of.getName()) ? "<init>" : head.group(1);
                method = of.getName() + "." + name;
                Due.is("one method alone is " + method, calls.put(method, new TreeSet<>()) == null, true);
            } else if (step.matches()) {
                readStep(method, step.group(1), row, of);
            }
        }
    }

    private void readStep(String method, String step, String row, Class<?> of) {
        Due.is(method + " has " + row, Set.of("invokedynamic", "invokeinterface", "checkcast", "instanceof",
            "monitorenter", "multianewarray").contains(step), false);
        if (step.startsWith("new") || step.startsWith("anew")) {
            Due.is(method + " makes none but an exception:" + row,
                method.endsWith(".<init>") || row.matches(".*// class java/\\w+/\\w+Exception"), true);
        }
        Matcher call = CALL.matcher(row);
        if (call.matches()) {
            String name = call.group(1).replace("\"", "");
            if (name.startsWith("java/")) {
                Due.is(method + " calls " + name, LIBRARY.contains(name), true);
            } else {
                calls.get(method).add(name.contains(".") ? name : of.getName() + "." + name);
            }
        }
    }

    private boolean isRecursive(String method) {
        Set<String> reached = new TreeSet<>();
        List<String> left = new ArrayList<>(calls.get(method));
        while (!left.isEmpty()) {
            String next = left.remove(left.size() - 1);
            if (reached.add(next)) {
                left.addAll(calls.get(next));
            }
        }
        return reached.contains(method);
    }

    private void recursionIsOfExpressionsAlone() {
        Set<String> recursive = new TreeSet<>();
        for (String method : calls.keySet()) {
            if (isRecursive(method)) {
                recursive.add(method.substring(method.indexOf('.') + 1));
            }
        }
        Due.is("recursive methods", recursive, new TreeSet<>(EXPRESSION));
    }

    private void callsGoEightDeep() {
        for (String method : calls.keySet()) {
            if (method.startsWith("WavingDesks.")) {
                Due.is(method + " goes at most eight deep, it goes " + depth(method), depth(method) <= 8, true);
            }
        }
    }

    /** How deep it goes, where all recursive methods together count as one. */
    private int depth(String method) {
        if (depths.containsKey(method)) {
            return depths.get(method);
        }
        boolean recursive = isRecursive(method);
        int deepest = 0;
        for (String next : recursive ? leavesOfRecursion() : calls.get(method)) {
            deepest = Math.max(deepest, depth(next));
        }
        depths.put(method, deepest + 1);
        return deepest + 1;
    }

    private Set<String> leavesOfRecursion() {
        Set<String> leaves = new TreeSet<>();
        for (Map.Entry<String, Set<String>> one : calls.entrySet()) {
            if (isRecursive(one.getKey())) {
                leaves.addAll(one.getValue());
            }
        }
        leaves.removeIf(this::isRecursive);
        return leaves;
    }
}
