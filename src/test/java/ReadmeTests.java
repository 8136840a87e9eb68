import java.lang.reflect.InvocationTargetException;
import java.lang.reflect.Method;
import java.lang.reflect.Modifier;
import java.nio.file.Files;
import java.nio.file.Path;
import java.util.ArrayList;
import java.util.HashMap;
import java.util.List;
import java.util.Map;
import java.util.Set;
import java.util.TreeSet;
import java.util.regex.Matcher;
import java.util.regex.Pattern;
import java.util.stream.Stream;

/** README.md against the class and the project: its examples are called, its lists are held against what there is. */
public final class ReadmeTests {
    private static final Pattern CALL = Pattern.compile("(?:int (\\w+) = )?scale\\.(\\w+)\\((.*?)\\); +// ([^: ]+)(?:: .*)?");
    private static final String MADE = "AgainstFeather scale = new AgainstFeather();";

    private static final Map<String, Object> values = new HashMap<>();
    private static int wrong = 0;

    public static void main(String[] args) throws Exception {
        String page = Files.readString(Path.of("README.md"));
        examples(page);
        calls(page);
        tests(page);
        insides(page);
        System.out.println(wrong == 0 ? "README.md holds" : wrong + " places of README.md don't hold");
        if (wrong != 0) System.exit(1);
    }

    private static void check(String what, boolean right) {
        if (!right) {
            wrong++;
            System.out.println("not so: " + what);
        }
    }

    // ---- the examples, all on one object, from the first on

    private static void examples(String page) throws Exception {
        List<String> lines = new ArrayList<>();
        Matcher block = Pattern.compile("```java\n(.*?)```", Pattern.DOTALL).matcher(page);
        while (block.find()) lines.addAll(List.of(block.group(1).split("\n")));
        check("the examples begin with a new object", !lines.isEmpty() && lines.get(0).equals(MADE));
        AgainstFeather scale = new AgainstFeather();
        for (String line : lines.subList(Math.min(1, lines.size()), lines.size())) example(scale, line);
        check("there are examples of calls", lines.size() > 20);
    }

    private static void example(AgainstFeather scale, String line) throws Exception {
        Matcher m = CALL.matcher(line);
        if (!m.matches()) {
            check("an example is one call with its answer: " + line, false);
            return;
        }
        Object[] args = m.group(3).isEmpty() ? new Object[0] : Stream.of(m.group(3).split(", ")).map(ReadmeTests::value).toArray();
        Object answer = invoke(scale, m.group(2), args);
        if (m.group(1) != null) values.put(m.group(1), answer);
        check(line + " (it answers " + answer + ")", String.valueOf(answer).equals(m.group(4)));
    }

    private static Object value(String word) {
        if (word.equals("true") || word.equals("false")) return Boolean.valueOf(word);
        if (word.equals("AgainstFeather.NONE")) return AgainstFeather.NONE;
        return values.containsKey(word) ? values.get(word) : Integer.decode(word);
    }

    private static Object invoke(AgainstFeather scale, String name, Object[] args) throws IllegalAccessException, InvocationTargetException {
        for (Method m : AgainstFeather.class.getDeclaredMethods()) {
            if (Modifier.isPublic(m.getModifiers()) && m.getName().equals(name)) return m.invoke(scale, args);
        }
        return "no such call";
    }

    // ---- the lists

    private static Set<String> named(String text) {
        Set<String> names = new TreeSet<>();
        Matcher m = Pattern.compile("`(\\w+)`").matcher(text);
        while (m.find()) names.add(m.group(1));
        return names;
    }

    /** What stands between one head and the next, or the end. */
    private static String under(String page, String head) {
        int at = page.indexOf("\n" + head + "\n");
        check("there is a head " + head, at >= 0);
        if (at < 0) return "";
        String rest = page.substring(at + head.length() + 2);
        int next = rest.indexOf("\n#");
        return next < 0 ? rest : rest.substring(0, next);
    }

    private static void calls(String page) {
        Map<String, String> refusals = new HashMap<>();
        for (String row : under(page, "### The calls").split("\n")) {
            String[] cells = row.split("\\|");
            if (cells.length < 4) continue;
            for (String name : named(cells[2])) {
                if (!name.equals("NONE")) check(name + " stands in the table once", refusals.put(name, cells[3].strip()) == null);
            }
        }
        Set<String> open = new TreeSet<>();
        for (Method m : AgainstFeather.class.getDeclaredMethods()) if (Modifier.isPublic(m.getModifiers())) open.add(m.getName());
        check("the table has the calls of the face: " + refusals.keySet(), open.equals(refusals.keySet()));
        refusals.forEach(ReadmeTests::refusal);
    }

    /** Numbers that no call takes, on a new object: so each answers as the table says, but those that always can. */
    private static void refusal(String name, String due) {
        for (Method m : AgainstFeather.class.getDeclaredMethods()) {
            if (!Modifier.isPublic(m.getModifiers()) || !m.getName().equals(name) || due.equals("(always can)")) continue;
            Object[] args = new Object[m.getParameterCount()];
            for (int i = 0; i < args.length; i++) args[i] = m.getParameterTypes()[i] == boolean.class ? (Object) true : (Object) Integer.MIN_VALUE;
            AgainstFeather scale = new AgainstFeather();
            // an empty tape is a text, and any bytes can be fed: only a fifth text, and a full tape, can't be
            for (int i = 0; i < 4; i++) scale.text();
            for (int i = 0; i < 15; i++) scale.feed(0, 0, 0, 0, 0);
            try {
                String answer = String.valueOf(m.invoke(scale, args));
                check(name + " answers " + answer + " when it can't be", answer.equals(due.equals("`NONE`") ? "-1" : due));
            } catch (ReflectiveOperationException e) {
                check(name + ": " + e, false);
            }
        }
    }

    private static void tests(String page) throws Exception {
        Set<String> named = named(under(page, "## Tests"));
        try (Stream<Path> files = Files.list(Path.of("src/test/java"))) {
            for (Path file : files.toList()) {
                String name = file.getFileName().toString().replace(".java", "");
                check(name + " is told of under Tests", named.contains(name));
            }
        }
        for (String name : named) {
            if (Character.isUpperCase(name.charAt(0))) check(name + " is there", Files.exists(Path.of("src/test/java", name + ".java")));
        }
        check(".ci/run is there", Files.isExecutable(Path.of(".ci/run")));
    }

    private static void insides(String page) {
        Set<String> classes = new TreeSet<>(Set.of("AgainstFeather"));
        for (Class<?> c : AgainstFeather.class.getDeclaredClasses()) classes.add(c.getSimpleName());
        check("the classes inside are told of: " + classes, named(under(page, "## How the class is built")).equals(classes));
    }
}
