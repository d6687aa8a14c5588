import java.io.IOException;
import java.lang.reflect.Array;
import java.lang.reflect.Field;
import java.lang.reflect.Method;
import java.lang.reflect.Modifier;
import java.nio.file.Files;
import java.nio.file.Path;
import java.util.ArrayList;
import java.util.Arrays;
import java.util.Collections;
import java.util.IdentityHashMap;
import java.util.List;
import java.util.Set;
import java.util.TreeSet;
import java.util.regex.Matcher;
import java.util.regex.Pattern;
import java.util.stream.Stream;

/** README.md says how to use the class: its runs are run, and what it lists is what there is. */
public final class ReadmeTest {
    private static final Check check = new Check();
    private static final Pattern MADE = Pattern.compile("HeronBook x = new HeronBook\\(\\);");
    private static final Pattern READ = Pattern.compile("Check\\.read\\(x, \"([^\"]*)\"\\); +// (-?\\d+)(:.*)?");
    private static final Pattern CALL = Pattern.compile("x\\.(\\w+)\\(([^)]*)\\); +// (-?\\d+)(:.*)?");

    private static String page;

    // ---- the runs

    private static void runs() throws ReflectiveOperationException {
        int blocks = 0;
        Matcher m = Pattern.compile("```java\n(.*?)```", Pattern.DOTALL).matcher(page);
        while (m.find()) {
            run(m.group(1).split("\n"));
            blocks++;
        }
        check.due("runs", blocks, 2);
    }

    private static void run(String[] rows) throws ReflectiveOperationException {
        HeronBook x = null;
        int calls = 0;
        for (String row : rows) {
            Matcher read = READ.matcher(row);
            Matcher call = CALL.matcher(row);
            if (MADE.matcher(row).matches()) {
                x = new HeronBook();
            } else if (read.matches()) {
                check.due(row, Check.read(x, read.group(1)), Integer.parseInt(read.group(2)));
                calls++;
            } else if (call.matches()) {
                check.due(row, answer(x, call.group(1), call.group(2)), Integer.parseInt(call.group(3)));
                calls++;
            } else {
                check.holds("a row of a run: " + row, row.isBlank());
            }
        }
        check.holds("calls in a run", calls >= 5);
    }

    private static int answer(HeronBook x, String name, String list) throws ReflectiveOperationException {
        String[] parts = list.isBlank() ? new String[0] : list.split(", *");
        Class<?>[] types = new Class<?>[parts.length];
        Arrays.fill(types, int.class);
        Object[] given = Arrays.stream(parts).map(Integer::decode).toArray();
        return (int) HeronBook.class.getMethod(name, types).invoke(x, given);
    }

    // ---- what it lists

    private static Set<String> listed(String title) {
        Matcher table = Pattern.compile("\\| " + title + " \\|.*?\n\n|\\| " + title + " \\|.*", Pattern.DOTALL).matcher(page);
        Set<String> names = new TreeSet<>();
        check.holds("a table of " + title, table.find());
        for (String row : table.group().split("\n")) {
            Matcher name = Pattern.compile("`(\\w+)`").matcher(row.split("\\|").length > 1 ? row.split("\\|")[1] : "");
            while (name.find()) {
                check.holds(name.group() + " is listed once", names.add(name.group(1)));
            }
        }
        return names;
    }

    private static void alike(String what, Set<String> listed, Stream<String> found) {
        Set<String> due = new TreeSet<>(found.toList());
        check.holds(what + " are " + due + ", listed are " + listed, due.equals(listed));
    }

    private static void lists() throws IOException {
        alike("calls", listed("calls"), Arrays.stream(HeronBook.class.getDeclaredMethods())
            .filter(m -> Modifier.isPublic(m.getModifiers())).map(Method::getName));
        alike("classes", listed("class"), Arrays.stream(HeronBook.class.getDeclaredClasses()).map(Class::getSimpleName));
        alike("constants", listed("constant"), Arrays.stream(HeronBook.class.getFields()).map(Field::getName));
        try (Stream<Path> files = Files.list(Path.of("src/test/java"))) {
            alike("tests", listed("test"), files.map(f -> f.getFileName().toString())
                .filter(f -> f.endsWith("Test.java")).map(f -> f.replace(".java", "")));
        }
    }

    /** The table of calls has every promise but the constructor's, in the document's order. */
    private static void promises() {
        Matcher m = Pattern.compile("\\| (`\\w+`(?:, `\\w+`)*) \\| (\\d+)(?: to |, )?(\\d*) \\|").matcher(page);
        int next = 2;
        while (m.find()) {
            check.due("the first promise of " + m.group(1), Integer.parseInt(m.group(2)), next);
            int calls = m.group(1).split(",").length;
            int last = m.group(3).isEmpty() ? next : Integer.parseInt(m.group(3));
            check.due("the last promise of " + m.group(1), last, next + calls - 1);
            next = last + 1;
            if (next > 42) {
                break;
            }
        }
        check.due("behind the last promise", next, 43);
    }

    // ---- how much an object takes

    private static void room() throws IllegalAccessException {
        Set<Object> seen = Collections.newSetFromMap(new IdentityHashMap<>());
        List<Object> open = new ArrayList<>(List.of(new HeronBook()));
        int elements = 0;
        while (!open.isEmpty()) {
            Object o = open.remove(open.size() - 1);
            if (seen.add(o)) {
                elements += parts(o, open);
            }
        }
        Matcher m = Pattern.compile("some ([\\d,]+) elements in some ([\\d,]+) objects").matcher(page);
        check.holds("the page tells what an object takes", m.find());
        near("elements", elements, m.group(1));
        near("objects", seen.size(), m.group(2));
    }

    private static void near(String what, int found, String told) {
        int said = Integer.parseInt(told.replace(",", ""));
        check.holds(what + ": " + found + ", the page says " + said, Math.abs(found - said) * 20 <= said);
    }

    /** How many fields or elements an object has; those that are objects come to the open ones. */
    private static int parts(Object o, List<Object> open) throws IllegalAccessException {
        if (o.getClass().isArray()) {
            for (int i = 0; i < Array.getLength(o) && !o.getClass().getComponentType().isPrimitive(); i++) {
                open.add(Array.get(o, i));
            }
            return Array.getLength(o);
        }
        int fields = 0;
        for (Field f : o.getClass().getDeclaredFields()) {
            if (!Modifier.isStatic(f.getModifiers())) {
                fields++;
                f.setAccessible(true);
                if (!f.getType().isPrimitive() && f.get(o) != null) {
                    open.add(f.get(o));
                }
            }
        }
        return fields;
    }

    public static void main(String[] args) throws IOException, ReflectiveOperationException {
        page = Files.readString(Path.of("README.md"));
        runs();
        lists();
        promises();
        room();
        check.close("ReadmeTest");
    }
}
