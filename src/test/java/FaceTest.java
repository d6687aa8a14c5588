import java.io.IOException;
import java.lang.reflect.Constructor;
import java.lang.reflect.Field;
import java.lang.reflect.Method;
import java.lang.reflect.Modifier;
import java.nio.file.Files;
import java.nio.file.Path;
import java.util.Arrays;
import java.util.Set;
import java.util.TreeSet;
import java.util.regex.Matcher;
import java.util.regex.Pattern;
import java.util.stream.Collectors;

/** The public face as the document's code block has it, and rules of LANGUAGE.md that can be seen from outside. */
public final class FaceTest {
    private static final Check check = new Check();
    private static final Path SOURCE = Path.of("src/main/java/HeronBook.java");
    private static final Path DOCUMENT = Path.of("../shared/DOC.md");

    private static String without(String text, String... patterns) {
        String rest = text;
        for (String pattern : patterns) {
            rest = Pattern.compile(pattern, Pattern.DOTALL).matcher(rest).replaceAll(" ");
        }
        return rest;
    }

    private static Set<String> methodsOfTheDocument() throws IOException {
        Set<String> set = new TreeSet<>();
        Matcher m = Pattern.compile("    public int (\\w+)\\(([^)]*)\\);").matcher(Files.readString(DOCUMENT));
        while (m.find()) {
            int takes = m.group(2).isBlank() ? 0 : m.group(2).split(",").length;
            set.add(m.group(1) + "/" + takes);
        }
        return set;
    }

    private static void face() throws IOException {
        Set<String> found = new TreeSet<>();
        Set<String> hidden = new TreeSet<>();
        for (Method m : HeronBook.class.getDeclaredMethods()) {
            if (Modifier.isPublic(m.getModifiers())) {
                check.holds(m.getName() + " takes and answers ints", m.getReturnType() == int.class
                    && Arrays.stream(m.getParameterTypes()).allMatch(t -> t == int.class) && !Modifier.isStatic(m.getModifiers()));
                found.add(m.getName() + "/" + m.getParameterCount());
            } else {
                check.holds(m.getName() + " is private", Modifier.isPrivate(m.getModifiers()) || m.isSynthetic());
                hidden.add(m.getName());
            }
        }
        Set<String> due = methodsOfTheDocument();
        check.due("methods of the document", due.size(), 41);
        check.holds("the methods are " + due + ", not " + found, due.equals(found));
        for (Class<?> c : HeronBook.class.getDeclaredClasses()) {
            check.holds(c.getName() + " is static and not public", Modifier.isStatic(c.getModifiers()) && !Modifier.isPublic(c.getModifiers()));
            Arrays.stream(c.getDeclaredMethods()).forEach(m -> hidden.add(m.getName()));
        }
        Set<String> names = due.stream().map(d -> d.replaceAll("/.*", "")).collect(Collectors.toCollection(TreeSet::new));
        names.retainAll(hidden);
        check.holds("hidden methods with public names: " + names, names.isEmpty());
    }

    private static void constantsAndConstructor() throws ReflectiveOperationException {
        check.holds("public and final", Modifier.isPublic(HeronBook.class.getModifiers()) && Modifier.isFinal(HeronBook.class.getModifiers()));
        String[] names = {"NONE", "RANGE", "FULL", "STATE"};
        for (int i = 0; i < names.length; i++) {
            check.due(names[i], HeronBook.class.getField(names[i]).getInt(null), -1 - i);
        }
        check.due("public fields", HeronBook.class.getFields().length, 4);
        for (Field f : HeronBook.class.getDeclaredFields()) {
            int m = f.getModifiers();
            check.holds(f.getName() + " is a constant or private", Modifier.isPrivate(m) || Modifier.isStatic(m) && Modifier.isFinal(m));
        }
        Constructor<?>[] all = HeronBook.class.getDeclaredConstructors();
        check.due("constructors", all.length, 1);
        check.holds("public, taking nothing", Modifier.isPublic(all[0].getModifiers()) && all[0].getParameterCount() == 0);
        check.holds("no class above", HeronBook.class.getSuperclass() == Object.class && HeronBook.class.getInterfaces().length == 0);
        check.holds("at most twelve classes", HeronBook.class.getDeclaredClasses().length < 12);
    }

    private static void language() throws IOException {
        String source = Files.readString(SOURCE);
        String code = without(source, "/\\*.*?\\*/", "//[^\n]*", "\"[^\"\n]*\"", "'\\\\?.'");
        for (String no : new String[] {"throw", "try", "catch", "synchronized", "assert", "throws", "protected", "package", "goto",
            "Object", "Math\\.\\w+Exact", "->", "::", "String\\.format", "System\\.(?!arraycopy)\\w+", "Random", "Thread", "Exception",
            "hashCode", "toString", "instanceof"}) {
            check.holds("no " + no, !Pattern.compile(no.matches("\\w+") ? "\\b" + no + "\\b" : no).matcher(code).find());
        }
        check.holds("one import", source.startsWith("import java.util.Arrays;\n") && source.indexOf("import ", 5) < 0);
        Matcher m = Pattern.compile("\\w+\\(([^()]*)\\) \\{").matcher(code);
        while (m.find()) {
            check.holds("at most seven parameters: " + m.group(), m.group(1).split(",").length <= 7);
        }
        check.holds("no sign above 127", source.chars().allMatch(c -> c < 128));
    }

    private static void shortMethods() throws IOException {
        int lines = 0;
        for (String line : Files.readAllLines(SOURCE)) {
            boolean starts = line.matches("    (    )?\\w[\\w\\[\\] ]*\\([^;]*\\) \\{");
            boolean ends = line.matches("    (    )?\\}");
            lines = starts ? 1 : lines + 1;
            check.holds("a method of " + lines + " lines ahead of " + line, !ends || lines <= 60);
            lines = ends ? 0 : lines;
        }
    }

    public static void main(String[] args) throws IOException, ReflectiveOperationException {
        face();
        constantsAndConstructor();
        language();
        shortMethods();
        check.close("FaceTest");
    }
}
