import java.lang.management.ManagementFactory;
import java.lang.reflect.Constructor;
import java.lang.reflect.Field;
import java.lang.reflect.Method;
import java.lang.reflect.Modifier;
import java.nio.file.Files;
import java.nio.file.Path;
import java.util.ArrayList;
import java.util.Arrays;
import java.util.List;
import java.util.Set;
import java.util.TreeSet;
import java.util.regex.Matcher;
import java.util.regex.Pattern;

/** The public face, the rules of the language that can be looked up, and the room that a run takes. */
public final class RulesTests {
    private static final String FACE = """
        boolean bond(int,int,int)
        boolean by(int)
        boolean lend(int,int,int)
        boolean should(int)
        boolean stick(int)
        boolean witness(int,int)
        int about(int)
        int answer(int,boolean)
        int back()
        int book(int,int)
        int day(int,int)
        int deed(int,int,int,int,int)
        int end(int)
        int fault(int)
        int featherForAll(boolean)
        int feed(int,int,int,int,int)
        int fit()
        int heart(int)
        int image()
        int isSo(int,int)
        int judge(int)
        int judged()
        int kindness(int)
        int known(int,int)
        int lay(int)
        int lending(int,int)
        int lies(int,int)
        int lightest(int,boolean,int)
        int ofDeed(int,int)
        int ofHeart(int,int)
        int often(int,int)
        int orderless(int)
        int passing(int,int)
        int played(int)
        int scale(int)
        int smallest(int)
        int sticking(int)
        int tells()
        int text()
        int truly(int)
        int undo()
        int weigh(int)
        int whoCannot()
        long odds(int,int,boolean)
        """;

    private static int wrong = 0;

    private static void check(String what, boolean right) {
        if (!right) {
            wrong++;
            System.out.println("not so: " + what);
        }
    }

    public static void main(String[] args) throws Exception {
        face();
        insides();
        source();
        room();
        System.out.println(wrong == 0 ? "all rules are kept" : wrong + " rules are broken");
        if (wrong != 0) System.exit(1);
    }

    private static String signature(Method m) {
        StringBuilder s = new StringBuilder(m.getReturnType().getName()).append(' ').append(m.getName()).append('(');
        List<String> types = new ArrayList<>();
        for (Class<?> c : m.getParameterTypes()) types.add(c.getName());
        return s.append(String.join(",", types)).append(')').toString();
    }

    private static void face() {
        Class<?> c = AgainstFeather.class;
        check("the class is public and final", Modifier.isPublic(c.getModifiers()) && Modifier.isFinal(c.getModifiers()));
        Set<String> open = new TreeSet<>();
        Set<String> names = new TreeSet<>();
        for (Method m : c.getDeclaredMethods()) {
            if (Modifier.isPublic(m.getModifiers())) {
                open.add(signature(m));
                names.add(m.getName());
            } else {
                check(m.getName() + " is private", Modifier.isPrivate(m.getModifiers()));
            }
        }
        check("the face is the document's: " + open, open.equals(new TreeSet<>(Arrays.asList(FACE.strip().split("\n")))));
        for (Method m : c.getDeclaredMethods()) {
            if (!Modifier.isPublic(m.getModifiers())) check("no private method is called " + m.getName(), !names.contains(m.getName()));
        }
        for (Field f : c.getDeclaredFields()) {
            if (!f.getName().equals("NONE")) check(f.getName() + " is private", Modifier.isPrivate(f.getModifiers()));
        }
        for (Constructor<?> k : c.getDeclaredConstructors()) check("one constructor", Modifier.isPublic(k.getModifiers()) && k.getParameterCount() == 0);
        for (Class<?> inside : c.getDeclaredClasses()) {
            for (Method m : inside.getDeclaredMethods()) check("no method inside is called " + m.getName(), !names.contains(m.getName()));
        }
    }

    private static void insides() {
        Class<?>[] all = AgainstFeather.class.getDeclaredClasses();
        check("some twelve classes", all.length <= 12);
        for (Class<?> inside : all) {
            check(inside + " is static, and not open", Modifier.isStatic(inside.getModifiers()) && !Modifier.isPublic(inside.getModifiers()));
            check(inside + " holds no classes", inside.getDeclaredClasses().length == 0);
        }
        List<Class<?>> classes = new ArrayList<>(Arrays.asList(all));
        classes.add(AgainstFeather.class);
        for (Class<?> c : classes) {
            int fields = 0;
            for (Field f : c.getDeclaredFields()) {
                if (Modifier.isStatic(f.getModifiers())) check(f + " is final", Modifier.isFinal(f.getModifiers()));
                else fields++;
            }
            check(c + " has " + fields + " fields", fields <= 20);
            for (Method m : c.getDeclaredMethods()) check(m + " takes seven at most", m.getParameterCount() <= 7);
        }
    }

    private static void source() throws Exception {
        String text = Files.readString(Path.of("src/main/java/AgainstFeather.java"));
        check("its signs are 1 to 127", text.chars().allMatch(c -> c > 0 && c < 128));
        String code = text.replaceAll("(?s)/\\*.*?\\*/", " ").replaceAll("//[^\n]*", " ").replaceAll("\"[^\"\n]*\"", "\"\"").replaceAll("'[^'\n]*'", "' '");
        for (String word : List.of("throw", "throws", "try", "catch", "synchronized", "assert", "Object", "var", "Exception", "Random", "Thread", "protected", "package", "instanceof")) {
            check("without " + word, !Pattern.compile("\\b" + word + "\\b").matcher(code).find());
        }
        check("without lambdas and method references", !code.contains("->") && !code.contains("::"));
        check("one import", code.split("\\bimport\\b").length == 2 && code.contains("import java.util.Arrays;"));
        Matcher whileLoop = Pattern.compile("\\bwhile\\b").matcher(code);
        check("loops that count alone", !whileLoop.find());
        check("methods have sixty lines at most", longestMethod(text) <= 60);
    }

    private static int longestMethod(String text) {
        int longest = 0;
        int from = 0;
        String[] lines = text.split("\n");
        for (int i = 0; i < lines.length; i++) {
            if (lines[i].matches("    (    )?(?!if|for|switch)[A-Za-z].*\\) \\{")) from = i;
            if (lines[i].matches("    (    )?\\}")) longest = Math.max(longest, i - from);
        }
        return longest;
    }

    /** 7.3 million fields and elements are there for all: what 512 of the dearest calls make must be far below. */
    private static void room() {
        com.sun.management.ThreadMXBean threads = (com.sun.management.ThreadMXBean) ManagementFactory.getThreadMXBean();
        long id = Thread.currentThread().getId();
        dearestRun();
        long before = threads.getThreadAllocatedBytes(id);
        dearestRun();
        long bytes = threads.getThreadAllocatedBytes(id) - before;
        check("a run of 512 calls takes " + bytes + " bytes", bytes < 1500000);
    }

    private static void dearestRun() {
        AgainstFeather x = new AgainstFeather();
        for (int i = 0; i < 26; i++) {
            x.back();
            x.end(0);
            for (int k = 0; k < 15; k++) x.feed(0x73742031, 0x2b312b31, 0x2b312b31, 0x2b312b31, 0x2b312b31);
            x.end(0);
            x.feed('u' << 24 | 'p' << 16 | ' ' << 8 | '1', 0x2b312b31, 0x2b312b31, 0x2b312b31, 0x2b31203b);
            x.text();
            x.played(0);
        }
    }
}
