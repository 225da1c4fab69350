import java.io.IOException;
import java.lang.reflect.Constructor;
import java.lang.reflect.Field;
import java.lang.reflect.Method;
import java.lang.reflect.Modifier;
import java.nio.file.Files;
import java.nio.file.Path;
import java.util.ArrayList;
import java.util.Arrays;
import java.util.List;
import java.util.Set;
import java.util.TreeSet;
import java.util.regex.Matcher;
import java.util.regex.Pattern;

/** The document's face, and those rules of ../shared/LANGUAGE.md that can be seen from outside or by plain reading. */
public final class FaceTest {
    private static final Path SOURCE = Path.of("src/main/java/ThoughtBetterOf.java");
    private static final Path DOCUMENT = Path.of("../shared/DOC.md");

    private FaceTest() {
    }

    public static void main(String[] args) throws IOException {
        faceIsTheDocuments();
        rule1NothingElseIsSeen();
        rule5StaticsAreConstants();
        String source = Files.readString(SOURCE).replaceAll("(?s)/\\*.*?\\*/", "").replaceAll("//[^\n]*", "");
        rulesOfWords(source);
        rule11Sizes(source);
        Due.end("FaceTest");
    }

    private static String said(Method method) {
        StringBuilder all = new StringBuilder();
        all.append(method.getReturnType()).append(' ').append(method.getName()).append('(');
        all.append("int ".repeat(method.getParameterCount()).trim().replace(" ", ", "));
        all.append(')');
        for (Class<?> thrown : method.getExceptionTypes()) {
            all.append(' ').append(thrown.getSimpleName());
        }
        return all.toString();
    }

    private static void faceIsTheDocuments() throws IOException {
        Set<String> due = new TreeSet<>();
        Matcher line = Pattern.compile("    public (int|long) (\\w+)\\((.*?)\\)(?: throws (.*?))?;")
                .matcher(Files.readString(DOCUMENT));
        while (line.find()) {
            String thrown = line.group(4) == null ? "" : " " + line.group(4).replace(",", "");
            due.add(line.group(1) + " " + line.group(2) + "(" + line.group(3).replaceAll("int \\w+", "int") + ")"
                    + thrown);
        }
        Set<String> got = new TreeSet<>();
        for (Method method : ThoughtBetterOf.class.getDeclaredMethods()) {
            if (Modifier.isPublic(method.getModifiers())) {
                got.add(said(method));
                Due.that(method + " takes ints alone", Arrays.stream(method.getParameterTypes())
                        .allMatch(type -> type == int.class));
            }
        }
        Due.is("calls of the document", due.size(), 48);
        Due.that("the face is " + got + ", due is " + due, got.equals(due));
        Constructor<?>[] constructors = ThoughtBetterOf.class.getDeclaredConstructors();
        Due.is("constructors", constructors.length, 1);
        Due.is("its parameters", constructors[0].getParameterCount(), 0);
        Due.that("it is public", Modifier.isPublic(constructors[0].getModifiers()));
        int modifiers = ThoughtBetterOf.class.getModifiers();
        Due.that("the class is public and final", Modifier.isPublic(modifiers) && Modifier.isFinal(modifiers));
    }

    private static void rule1NothingElseIsSeen() {
        Set<String> names = new TreeSet<>();
        for (Method method : ThoughtBetterOf.class.getDeclaredMethods()) {
            if (Modifier.isPublic(method.getModifiers())) {
                names.add(method.getName());
            }
        }
        for (Field field : ThoughtBetterOf.class.getDeclaredFields()) {
            Due.that(field + " is private", Modifier.isPrivate(field.getModifiers()));
        }
        for (Class<?> type : allTypes()) {
            for (Method method : type.getDeclaredMethods()) {
                boolean face = type == ThoughtBetterOf.class && Modifier.isPublic(method.getModifiers());
                Due.that(method + " bears the name of a public one", face || !names.contains(method.getName()));
                Due.that(method + " is private", face || type != ThoughtBetterOf.class
                        || Modifier.isPrivate(method.getModifiers()));
                Due.that(method + " has at most seven parameters", method.getParameterCount() <= 7);
            }
        }
        for (Class<?> inside : ThoughtBetterOf.class.getDeclaredClasses()) {
            Due.that(inside + " is static", Modifier.isStatic(inside.getModifiers()));
            Due.that(inside + " is not seen", !Modifier.isPublic(inside.getModifiers())
                    && !Modifier.isProtected(inside.getModifiers()));
        }
    }

    private static List<Class<?>> allTypes() {
        List<Class<?>> all = new ArrayList<>(List.of(ThoughtBetterOf.class.getDeclaredClasses()));
        all.add(ThoughtBetterOf.class);
        return all;
    }

    private static void rule5StaticsAreConstants() {
        for (Class<?> type : allTypes()) {
            for (Field field : type.getDeclaredFields()) {
                if (Modifier.isStatic(field.getModifiers())) {
                    Due.that(field + " is final", Modifier.isFinal(field.getModifiers()));
                }
            }
        }
    }

    private static void rulesOfWords(String source) {
        String[] words = {"->", "::", "\\bimport\\b", "\\bpackage\\b", "\\bfinally\\b", "\\bsynchronized\\b",
            "\\bassert\\b", "\\bvar\\b", "\\bthis\\s*\\)", "Exact\\(", "\\bObject\\b", "getMessage", "\\bException\\b",
            "Throwable", "ArithmeticException", "NullPointer", "IndexOutOf", "ClassCast", "NegativeArray",
            "ArrayStore", "RuntimeException", "@", "\\bByte\\.", "\\bShort\\.", "\\bInteger\\.[A-Z]", "\\bLong\\.[A-Z]",
            "hashCode", "toString", "equals", "\\bthread", "Thread", "random", "Random", "nanoTime", "currentTime",
            "\\btransient\\b", "\\bvolatile\\b", "\\bnative\\b", "while \\(true\\)", "for \\(;;\\)"};
        for (String word : words) {
            Due.that("the source has " + word, !Pattern.compile(word).matcher(source).find());
        }
        Matcher library = Pattern.compile("\\b(System|Math|Integer|Long|Arrays|String)\\.(\\w+)").matcher(source);
        Set<String> allowed = Set.of("System.arraycopy", "Math.max", "Math.min", "Integer.compare", "Integer.bitCount");
        while (library.find()) {
            Due.that("the source uses " + library.group(), allowed.contains(library.group()));
        }
        for (char c : source.toCharArray()) {
            if (c > 126) {
                Due.that("the source has a sign beyond 126", false);
            }
        }
    }

    private static void rule11Sizes(String source) {
        Due.that("at most twelve classes", allTypes().size() <= 12);
        for (Class<?> type : allTypes()) {
            long fields = Arrays.stream(type.getDeclaredFields())
                    .filter(field -> !Modifier.isStatic(field.getModifiers())).count();
            Due.that(type + " has " + fields + " fields", fields <= 20);
        }
        int opened = 0;
        int line = 0;
        for (String text : source.split("\n")) {
            line++;
            Due.that("line " + line + " is at most 120 wide", text.length() <= 120);
            if (text.matches(" {4,8}[\\w\\[\\]<>, ]+\\(.*\\{")) {
                opened = line;
            }
            if (text.matches(" {4,8}\\}") && opened > 0) {
                Due.that("the method at " + opened + " is " + (line - opened) + " lines", line - opened <= 60);
            }
        }
    }
}
