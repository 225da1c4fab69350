import java.io.IOException;
import java.lang.reflect.InvocationTargetException;
import java.lang.reflect.Method;
import java.lang.reflect.Modifier;
import java.nio.file.Files;
import java.nio.file.Path;
import java.util.Arrays;
import java.util.Set;
import java.util.TreeSet;
import java.util.regex.Matcher;
import java.util.regex.Pattern;
import java.util.stream.Stream;

/** README.md says how the class is used: its example answers as told there, no call and no refusal is left out. */
public final class ReadmeTest {
    private static final Path README = Path.of("README.md");
    private static final Path DOCUMENT = Path.of("../shared/DOC.md");
    private static final Path TESTS = Path.of("src/test/java");

    private ReadmeTest() {
    }

    public static void main(String[] args) throws Exception {
        String readme = Files.readString(README);
        exampleAnswersAsTold(readme);
        callsAreTold(readme);
        refusalsAreTold(readme);
        questionsChangeNothing(readme);
        testsAreTold(readme);
        Due.that("for how many calls an object serves", readme.contains("**512 calls**"));
        Due.end("ReadmeTest");
    }

    private static void exampleAnswersAsTold(String readme) throws Exception {
        int from = readme.indexOf("```java");
        String example = readme.substring(from, readme.indexOf("```\n", from));
        Matcher text = Pattern.compile("String text = \"(.*)\";").matcher(example);
        Due.that("the example has a text", text.find());
        ThoughtBetterOf town = new ThoughtBetterOf();
        Due.is("row", town.row(0, 0, text.group(1).length()), 0);
        for (int i = 0; i < text.group(1).length(); i++) {
            Due.is("put " + i, town.put(0, i, text.group(1).charAt(i)), 0);
        }
        Matcher call = Pattern.compile("town\\.(\\w+)\\(([-0-9, ]*)\\); +// (-?\\d+):").matcher(example);
        int calls = 0;
        while (call.find()) {
            int[] told = Arrays.stream(call.group(2).split(", ")).mapToInt(Integer::parseInt).toArray();
            Due.is(call.group(1) + Arrays.toString(told), answer(town, call.group(1), told),
                    Long.parseLong(call.group(3)));
            calls++;
        }
        Due.is("calls of the example", calls, 7);
    }

    private static long answer(ThoughtBetterOf town, String name, int... told) throws Exception {
        Class<?>[] types = new Class<?>[told.length];
        Arrays.fill(types, int.class);
        Object[] arguments = Arrays.stream(told).boxed().toArray();
        return ((Number) ThoughtBetterOf.class.getMethod(name, types).invoke(town, arguments)).longValue();
    }

    private static Set<String> names() {
        Set<String> names = new TreeSet<>();
        for (Method method : ThoughtBetterOf.class.getDeclaredMethods()) {
            if (Modifier.isPublic(method.getModifiers())) {
                names.add(method.getName());
            }
        }
        return names;
    }

    /** Each call stands once in the table of calls. */
    private static void callsAreTold(String readme) {
        String table = readme.substring(readme.indexOf("| calls |"), readme.indexOf("A question changes nothing"));
        Set<String> told = new TreeSet<>();
        Matcher name = Pattern.compile("`(\\w+)`").matcher(table);
        while (name.find()) {
            Due.that(name.group(1) + " is told twice", told.add(name.group(1)));
        }
        Due.that("the calls told are " + told + ", due are " + names(), told.equals(names()));
    }

    /** Each REFUSAL that the document names stands in the table of refusals. */
    private static void refusalsAreTold(String readme) throws IOException {
        String table = readme.substring(readme.indexOf("| answer |"), readme.indexOf("`element` alone throws"));
        String document = Files.readString(DOCUMENT);
        Matcher refusal = Pattern.compile("(-1[1-5]|-[1-4]) (?=[a-z])|-1000000001|-[12]000(?= less)").matcher(
                document.substring(document.indexOf("## Terms"), document.indexOf("## Promise 1:")));
        Set<String> due = new TreeSet<>();
        while (refusal.find()) {
            due.add(refusal.group().trim());
        }
        Due.is("refusals of the document " + due, due.size(), 12);
        for (String number : due) {
            Due.that("refusal " + number, Pattern.compile("(?m)^\\| " + number + "( less a place)? \\|").matcher(table)
                    .find());
        }
    }

    /** A call that README.md does not name among those that change something changes nothing, refused or not. */
    private static void questionsChangeNothing(String readme) throws Exception {
        int from = readme.indexOf("A question changes nothing");
        String words = readme.substring(from, readme.indexOf("What is taken", from));
        int changing = 0;
        for (Method method : ThoughtBetterOf.class.getDeclaredMethods()) {
            if (!Modifier.isPublic(method.getModifiers())) {
                continue;
            }
            if (words.contains("`" + method.getName() + "`")) {
                changing++;
            } else {
                askAll(method);
            }
        }
        Due.is("calls that change something", changing, 15);
    }

    /** Asked with small numbers, each town is told anew, as an object serves for 512 calls alone. */
    private static void askAll(Method method) throws Exception {
        int parameters = method.getParameterCount();
        for (int told = 0; told < Math.pow(3, parameters); told++) {
            ThoughtBetterOf x = Towns.of("o10;d2;t0+121002;k01;f0+509;f1-413;p00008-320;p25010-510;p60112+430;");
            x.keep(0, 1, 2, 5);
            Towns.row(x, 1, 1, 2, -32768, 1);
            String before = Towns.told(x);
            Object[] arguments = new Object[parameters];
            for (int i = 0, rest = told; i < parameters; i++, rest /= 3) {
                arguments[i] = rest % 3;
            }
            try {
                method.invoke(x, arguments);
            } catch (InvocationTargetException refused) {
                Due.that(method.getName() + " throws", method.getName().equals("element"));
            }
            Due.that(method.getName() + Arrays.toString(arguments) + " changes something",
                    before.equals(Towns.told(x)));
        }
    }

    private static void testsAreTold(String readme) throws IOException {
        try (Stream<Path> files = Files.list(TESTS)) {
            files.map(f -> f.getFileName().toString()).filter(f -> f.endsWith("Test.java"))
                    .forEach(f -> Due.that(f + " is told", readme.contains("| " + f.replace(".java", "") + " |")));
        }
    }
}
