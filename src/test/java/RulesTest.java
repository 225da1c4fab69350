import java.io.PrintWriter;
import java.io.StringWriter;
import java.nio.file.Files;
import java.nio.file.Path;
import java.util.ArrayList;
import java.util.HashMap;
import java.util.List;
import java.util.Map;
import java.util.Set;
import java.util.TreeMap;
import java.util.TreeSet;
import java.util.regex.Matcher;
import java.util.regex.Pattern;
import java.util.spi.ToolProvider;
import java.util.stream.Stream;

/** Rules of ../shared/LANGUAGE.md that can be seen in the compiled classes: who calls, throws, catches, makes what. */
public final class RulesTest {
    private static final Set<String> LIBRARY = Set.of("java/lang/Object.<init>", "java/lang/Math.max",
            "java/lang/Math.min", "java/lang/Integer.compare", "java/lang/Integer.bitCount",
            "java/lang/System.arraycopy",
            "java/lang/String.length", "java/lang/String.charAt", "java/lang/String.isEmpty",
            "java/lang/IllegalStateException.<init>", "java/lang/IllegalArgumentException.<init>",
            "java/lang/UnsupportedOperationException.<init>");
    private static final Set<String> CAUGHT = Set.of("java/lang/IllegalStateException",
            "java/lang/IllegalArgumentException", "java/lang/UnsupportedOperationException");
    private static final int DEEPEST = 8;

    /** A class's name and the one it is under. */
    private static final Map<String, String> UNDER = new HashMap<>();
    /** Each method with those that it calls; "v" stands ahead if a class under the named one may answer. */
    private static final Map<String, List<String>> CALLS = new TreeMap<>();
    private static final Map<String, String> CODE = new TreeMap<>();

    private RulesTest() {
    }

    public static void main(String[] args) throws Exception {
        read();
        Due.that("all classes are read", UNDER.size() >= 9 && CALLS.size() > 48);
        rule4Library();
        rule6ThrowAndCatch();
        rule8NoRecursion();
        rule11EightDeep();
        rule12NothingIsMadeByQuestions();
        Due.end("RulesTest");
    }

    private static void read() throws Exception {
        Path place = Path.of(ThoughtBetterOf.class.getProtectionDomain().getCodeSource().getLocation().toURI());
        List<String> arguments = new ArrayList<>(List.of("-p", "-c"));
        try (Stream<Path> files = Files.list(place)) {
            files.filter(f -> f.getFileName().toString().matches("ThoughtBetterOf.*\\.class"))
                    .forEach(f -> arguments.add(f.toString()));
        }
        StringWriter out = new StringWriter();
        ToolProvider.findFirst("javap").orElseThrow()
                .run(new PrintWriter(out), new PrintWriter(System.out), arguments.toArray(new String[0]));
        Pattern type = Pattern.compile("^(?:\\w+ )*class ([\\w$]+)(?: extends ([\\w$.]+))?.*");
        Pattern method = Pattern.compile("^  (?:[\\w\\[\\]$.]+ )*([\\w$]+)\\(.*");
        Pattern call = Pattern.compile(".*(invoke\\w+) +#.*// Method ([^:]+):.*");
        String inside = "";
        String current = "";
        for (String line : out.toString().split("\n")) {
            Matcher m = type.matcher(line);
            if (m.matches()) {
                inside = m.group(1);
                UNDER.put(inside, m.group(2));
            } else if ((m = method.matcher(line)).matches()) {
                current = inside + "." + (m.group(1).equals(inside) ? "<init>" : m.group(1));
                CALLS.putIfAbsent(current, new ArrayList<>());
                CODE.putIfAbsent(current, "");
            } else if (!current.isEmpty()) {
                CODE.merge(current, line + "\n", String::concat);
                if ((m = call.matcher(line)).matches()) {
                    String name = m.group(2).replace("\"", "");
                    String whole = name.contains(".") ? name : inside + "." + name;
                    CALLS.get(current).add((m.group(1).equals("invokevirtual") ? "v" : "s") + whole);
                }
            }
        }
    }

    private static boolean isOurs(String method) {
        return UNDER.containsKey(method.substring(0, method.lastIndexOf('.')));
    }

    /** The methods that may answer a call. */
    private static Set<String> answering(String call) {
        String method = call.substring(1);
        if (!isOurs(method)) {
            return Set.of(method);
        }
        String name = method.substring(method.lastIndexOf('.'));
        String named = method.substring(0, method.lastIndexOf('.'));
        Set<String> all = new TreeSet<>();
        for (String type : call.charAt(0) == 'v' ? UNDER.keySet() : Set.of(named)) {
            String found = null;
            boolean under = false;
            for (String t = type; t != null; t = UNDER.get(t)) {
                found = found == null && CALLS.containsKey(t + name) ? t + name : found;
                under |= t.equals(named);
            }
            if (under && found != null) {
                all.add(found);
            }
        }
        Due.that("nobody answers " + call, !all.isEmpty());
        return all;
    }

    private static void rule4Library() {
        for (Map.Entry<String, List<String>> method : CALLS.entrySet()) {
            for (String call : method.getValue()) {
                String name = call.substring(1);
                Due.that(method.getKey() + " calls " + name, isOurs(name) || LIBRARY.contains(name));
            }
        }
        for (Map.Entry<String, String> method : CODE.entrySet()) {
            Due.that(method.getKey() + " casts or has a lambda",
                    !method.getValue().matches("(?s).*(invokedynamic|invokeinterface|checkcast).*"));
        }
    }

    private static void rule6ThrowAndCatch() {
        Pattern handler = Pattern.compile("Class ([\\w/$]+)\n");
        for (Map.Entry<String, String> method : CODE.entrySet()) {
            String code = method.getValue();
            boolean throwsOne = code.contains("athrow");
            boolean catches = code.contains("Exception table");
            Due.that(method.getKey() + " throws and catches", !(throwsOne && catches));
            Due.that(method.getKey() + " is a constructor that throws",
                    !(throwsOne && method.getKey().endsWith("<init>")));
            Due.that(method.getKey() + " throws, though none is due",
                    !throwsOne || method.getKey().matches("ThoughtBetterOf(\\.element|\\$\\w+\\.fail)"));
            if (catches) {
                Matcher caught = handler.matcher(code.substring(code.indexOf("Exception table")));
                while (caught.find()) {
                    Due.that(method.getKey() + " catches " + caught.group(1), CAUGHT.contains(caught.group(1)));
                }
            }
        }
    }

    private static void rule8NoRecursion() {
        for (String method : CALLS.keySet()) {
            Set<String> reached = new TreeSet<>();
            List<String> next = new ArrayList<>(List.of(method));
            while (!next.isEmpty()) {
                for (String call : CALLS.get(next.remove(0))) {
                    for (String answering : answering(call)) {
                        if (isOurs(answering) && reached.add(answering)) {
                            next.add(answering);
                        }
                    }
                }
            }
            Due.that(method + " comes back to itself", !reached.contains(method));
        }
    }

    private static int depthOf(String method, int open) {
        if (!isOurs(method) || open > 20) {
            return 1;
        }
        int most = 0;
        for (String call : CALLS.get(method)) {
            for (String answering : answering(call)) {
                most = Math.max(most, depthOf(answering, open + 1));
            }
        }
        return most + 1;
    }

    private static void rule11EightDeep() {
        for (String method : CALLS.keySet()) {
            int depth = depthOf(method, 0);
            Due.that(method + " is " + depth + " calls deep", depth <= DEEPEST);
        }
    }

    /** Rows are made in constructors; else one of PEOPLE is made where one is told, and what is thrown. */
    private static void rule12NothingIsMadeByQuestions() {
        Pattern making = Pattern.compile("\\b(newarray|anewarray|multianewarray|new) ");
        for (Map.Entry<String, String> method : CODE.entrySet()) {
            boolean makes = making.matcher(method.getValue()).find();
            Due.that(method.getKey() + " makes something", !makes
                    || method.getKey().matches("ThoughtBetterOf(.*<init>|\\.oneOfKind|\\.element|\\$\\w+\\.fail)"));
        }
    }
}
