import java.util.function.Supplier;

/** What the tests of the document's sentences share. Each test has objects of its own, of at most 512 calls. */
abstract class Sentences {
    static final int NONE = AgainstFeather.NONE;
    static final int NOT_SUCH = -100000;
    static final int[] FAR = {Integer.MIN_VALUE, Integer.MIN_VALUE + 1, -100000, -1000, -100, -10, -2, 1 << 24, 1 << 30, Integer.MAX_VALUE};

    interface Call {
        long on(AgainstFeather x);
    }

    interface Check {
        boolean on(AgainstFeather x);
    }

    private static Document document = null;
    private static String head = "";
    private static String words = "";
    private static boolean told = false;
    private static int tests = 0;
    private static int wrong = 0;

    // ---- sentences

    static void open() throws java.io.IOException {
        document = new Document();
    }

    /** Prints what is wrong with the tests themselves; how many answers and tests are wrong. */
    static int close() {
        for (String rest : document.unquoted()) {
            wrong++;
            System.out.println("no test stands for: " + rest);
        }
        System.out.println(wrong == 0 ? tests + " sentences hold" : wrong + " answers are not as due");
        return wrong;
    }

    /** The head in the document under which the next sentences stand. */
    static void under(String which) {
        head = which;
    }

    static void promise(int number) {
        under("Promise " + number);
    }

    static void sentence(String quote, Runnable test) {
        words = quote;
        told = false;
        tests++;
        if (!document.quote(head, quote)) fail("these words don't stand there once");
        try {
            test.run();
        } catch (RuntimeException e) {
            fail("the class threw " + e);
        }
    }

    private static void fail(String what) {
        if (!told) System.out.println(head + ", \"" + words + "\"");
        told = true;
        wrong++;
        System.out.println("    " + what);
    }

    static void due(String call, long got, long want) {
        if (got != want) fail(call + " answered " + got + ", due is " + want);
    }

    static void due(String call, boolean got, boolean want) {
        if (got != want) fail(call + " answered " + got + ", due is " + want);
    }

    // ---- refused calls

    /** The call answers so, and all is as if it had not been made. */
    static void refused(Supplier<AgainstFeather> make, String what, long want, Call call) {
        AgainstFeather x = make.get();
        due(what, call.on(x), want);
        same(what, x, make.get());
    }

    static void refused(String what, long want, Call call) {
        refused(Sentences::rich, what, want, call);
    }

    static void refused(Supplier<AgainstFeather> make, String what, Check check) {
        refused(make, what, 0, x -> check.on(x) ? 1 : 0);
    }

    static void refused(String what, Check check) {
        refused(Sentences::rich, what, check);
    }

    static void same(String what, AgainstFeather x, AgainstFeather twin) {
        String now = history(x);
        String then = history(twin);
        if (!now.equals(then)) fail(what + " changed something: " + now + " was " + then);
    }

    /** Something of everything that a call could change. */
    static AgainstFeather rich() {
        AgainstFeather x = hearts(10, 20, 300);
        x.deed(0, 1, 16, 1, NONE);
        x.deed(1, 2, 4, 2, 0);
        x.deed(0, 3, 7, 4, 2);
        x.judge(2);
        x.judge(24);
        x.witness(0, 6);
        x.witness(1, 5);
        x.stick(4);
        x.bond(0, 1, 9);
        x.bond(0, 2, 10);
        read(x, "weight size+seen;lie 5;");
        x.by(0);
        x.known(0, 24);
        x.should(3);
        x.lend(1, 0, 6);
        x.day(3, 1);
        x.image();
        x.known(1, 4);
        x.weigh(0);
        x.lay(2);
        x.answer(1, false);
        read(x, "weight 10000;");
        feedAll(x, "heart 7;");
        return x;
    }

    /** All that can be seen of an object: now, then step by step as it is taken back, at last of its image and its tape. */
    private static String history(AgainstFeather x) {
        StringBuilder s = new StringBuilder();
        look(x, s);
        int left = 0;
        for (int i = 0; i < 31 && left != NONE; i++) {
            left = x.undo();
            s.append(left).append(':');
            for (int k = 0; k < 6; k++) s.append(x.scale(k)).append(' ');
            s.append(x.about(4)).append(' ').append(x.about(5)).append(' ').append(x.ofHeart(0, 4)).append(' ').append(x.book(NONE, 0)).append(' ');
        }
        s.append(x.back()).append(':');
        look(x, s);
        s.append(x.text()).append(' ').append(x.fault(0)).append(' ').append(x.fault(1)).append(' ').append(x.played(1)).append(' ').append(x.ofHeart(3, 0));
        return s.toString();
    }

    /** Asks for all that is told and for what follows of it, and changes nothing. */
    private static void look(AgainstFeather x, StringBuilder s) {
        for (int i = 0; i < 12; i++) s.append(x.about(i)).append(' ');
        s.append(x.fault(0)).append(' ').append(x.fault(1)).append(" scale ");
        for (int i = 0; i < 6; i++) s.append(x.scale(i)).append(' ');
        for (int h = 0; h < Math.min(3, x.about(0)); h++) {
            s.append(" heart ");
            for (int i = 0; i < 5; i++) s.append(x.ofHeart(h, i)).append(' ');
            for (int i = 0; i < 3; i++) s.append(x.ofHeart(h, 10 + i)).append(' ');
            for (int i = 0; i < 3; i++) s.append(x.lending(h, i)).append(' ');
            s.append(x.truly(h)).append(' ');
        }
        for (int d = 0; d < Math.min(3, x.about(1)); d++) {
            s.append(" deed ");
            for (int i = 0; i < 7; i++) s.append(x.ofDeed(d, i)).append(' ');
        }
        s.append(" book ");
        for (int i = 0; i < 5; i++) s.append(x.book(0, i)).append(' ');
        s.append(x.book(NONE, 0)).append(' ').append(x.lending(NONE, 0)).append(' ').append(x.whoCannot()).append(' ').append(x.fit()).append(' ').append(x.tells()).append(' ');
        for (int i = 0; i < 4; i++) s.append(x.smallest(i)).append(' ');
        s.append(x.featherForAll(false)).append(' ').append(x.featherForAll(true)).append(' ').append(x.kindness(3)).append(' ');
    }

    // ---- hands

    static AgainstFeather hearts(int... feathers) {
        AgainstFeather x = new AgainstFeather();
        for (int f : feathers) x.heart(f);
        return x;
    }

    /** One heart with deeds of kind 0, of these sizes. */
    static AgainstFeather deeds(int feather, int... sizes) {
        AgainstFeather x = hearts(feather);
        add(x, 0, sizes);
        return x;
    }

    static void add(AgainstFeather x, int heart, int... sizes) {
        for (int size : sizes) x.deed(heart, 0, size, 0, NONE);
    }

    static void feedAll(AgainstFeather x, String text) {
        x.end(0);
        for (int at = 0; at < text.length(); at += 20) {
            int[] fours = new int[5];
            for (int i = 0; i < 20; i++) {
                int b = at + i < text.length() ? text.charAt(at + i) & 255 : 0;
                fours[i / 4] = fours[i / 4] << 8 | b;
            }
            x.feed(fours[0], fours[1], fours[2], fours[3], fours[4]);
        }
        x.end(text.length());
    }

    static int read(AgainstFeather x, String text) {
        feedAll(x, text);
        return x.text();
    }

    /** The text rules on this object from now on. */
    static AgainstFeather rule(AgainstFeather x, String text) {
        x.by(read(x, text));
        return x;
    }

    static AgainstFeather ruled(String text, int... feathers) {
        return rule(hearts(feathers), text);
    }

    /** Plays the text on this object. */
    static int play(AgainstFeather x, String text) {
        return x.played(read(x, text));
    }

    static void fine(String text) {
        faulty(text, 0, NONE);
    }

    static void faulty(String text, int fault, int place) {
        AgainstFeather x = new AgainstFeather();
        due("text of \"" + text + "\"", read(x, text), fault == 0 ? 0 : NONE);
        due("the fault of \"" + text + "\"", x.fault(0), fault);
        due("its place in \"" + text + "\"", x.fault(1), place);
    }

    /** Deed 0 is of heart 1 (feather 60), of kind 7 and size 12, seen and repaid, bid by heart 0. */
    static int worth(String sum) {
        AgainstFeather x = ruled("weight " + sum + ";", 40, 60);
        x.deed(1, 7, 12, 3, 0);
        return x.ofDeed(0, 6);
    }

    static void worth(String sum, int want) {
        due("weight " + sum, worth(sum), want);
    }

    static int anew(int x) {
        return (int) ((x * 223L + 109) % 30161);
    }

    static int anew(int x, int times) {
        return times == 0 ? x : anew(anew(x), times - 1);
    }
}
