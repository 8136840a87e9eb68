import java.lang.reflect.Method;
import java.util.ArrayList;
import java.util.List;
import java.util.Random;

/** Runs of calls by draws, each on a new object of the class and on PlainModel: every answer must be alike. */
public final class ModelTests {
    private static final int RUNS = Integer.getInteger("runs", 600);
    private static final int CALLS = 300;

    private final Random random;
    private final AgainstFeather feather = new AgainstFeather();
    private final PlainModel model = new PlainModel();
    private final List<String> done = new ArrayList<>();
    private final int seed;
    private boolean wrong = false;

    private ModelTests(int seed) {
        this.seed = seed;
        this.random = new Random(seed * 7919L + 17);
    }

    public static void main(String[] args) throws Exception {
        int wrongRuns = 0;
        int first = Integer.getInteger("first", 0);
        for (int seed = first; seed < first + RUNS && wrongRuns < 5; seed++) {
            ModelTests run = new ModelTests(seed);
            run.go();
            if (run.wrong) wrongRuns++;
        }
        System.out.println(wrongRuns == 0 ? RUNS + " runs are alike" : "runs differ");
        if (wrongRuns != 0) System.exit(1);
    }

    // ---- a call on both

    private static Method find(Class<?> in, String name) {
        for (Method m : in.getMethods()) if (m.getName().equals(name) && m.getDeclaringClass() == in) return m;
        throw new IllegalArgumentException(name);
    }

    private static final java.util.Map<String, Method[]> METHODS = new java.util.HashMap<>();

    private void call(String name, Object... args) throws Exception {
        if (wrong) return;
        Method[] both = METHODS.get(name);
        if (both == null) {
            both = new Method[] {find(AgainstFeather.class, name), find(PlainModel.class, name)};
            METHODS.put(name, both);
        }
        Object got = both[0].invoke(feather, args);
        Object want = both[1].invoke(model, args);
        StringBuilder row = new StringBuilder(name).append(java.util.Arrays.toString(args)).append(" = ").append(got);
        done.add(row.toString());
        if (!got.equals(want)) {
            wrong = true;
            System.out.println("seed " + seed + ": " + row + ", the model answers " + want);
            for (String d : done.subList(Math.max(0, done.size() - 60), done.size())) System.out.println("    " + d);
        }
    }

    // ---- draws

    private int upTo(int most) {
        return random.nextInt(most + 1);
    }

    private static final int[] FAR = {Integer.MIN_VALUE, -1000000, -100000, -9999, -100, -2, 10, 24, 99, 100, 300, 999, 1000, 1023, 1024, 9999, 10000, 1 << 24, Integer.MAX_VALUE};

    /** Mostly 0 .. most; sometimes just beside it, seldom far away. */
    private int near(int most) {
        int how = random.nextInt(40);
        if (how == 0) return FAR[random.nextInt(FAR.length)];
        if (how == 1) return -1;
        if (how == 2) return most + 1;
        if (how == 3) return most;
        return upTo(most);
    }

    private int aHeart() {
        return near(Math.max(0, model.about(0) - 1));
    }

    private int aDeed() {
        return near(Math.max(0, model.about(1) - 1));
    }

    private int aJudge() {
        return near(Math.max(0, model.about(2) - 1));
    }

    private int aSet(int many) {
        return random.nextInt(12) == 0 ? near((1 << many) - 1) : upTo((1 << many) - 1) & upTo((1 << many) - 1) | 1 << upTo(Math.max(0, many - 1)) & (1 << many) - 1;
    }

    private int itsIndex(int most) {
        return random.nextInt(3) == 0 ? -1 : near(most);
    }

    private boolean either() {
        return random.nextBoolean();
    }

    private String pick(String... of) {
        return of[random.nextInt(of.length)];
    }

    // ---- texts

    private String sum(String law, int open) {
        StringBuilder s = new StringBuilder(product(law, open));
        for (int i = random.nextInt(3); i > 0; i--) s.append(pick("+", "-", " - ")).append(product(law, open));
        return s.toString();
    }

    private String product(String law, int open) {
        StringBuilder s = new StringBuilder(one(law, open));
        for (int i = Math.max(0, random.nextInt(5) - 2); i > 0; i--) s.append(pick("*", "/")).append(one(law, open));
        return s.toString();
    }

    private String one(String law, int open) {
        int how = random.nextInt(open > 6 ? 6 : 10);
        if (how < 2) return String.valueOf(random.nextInt(8) == 0 ? near(9999) : near(9)).replace("-", "");
        if (how < 6) return aName(law);
        if (how < 7) return "(" + sum(law, open + 1) + ")";
        if (how < 8) return "|" + sum(law, open + 1) + "|";
        return "-" + one(law, open + 1);
    }

    private String aName(String law) {
        if (random.nextInt(60) == 0) law = pick("weight", "sticks", "lie", "up");
        if (random.nextInt(4) == 0) return pick("heart", "feather");
        return switch (law) {
            case "weight" -> pick("kind", "size", "size", "seen", "repaid", "fear", "bid");
            case "sticks" -> pick("shown", "laid");
            case "lie" -> pick("lies", "judge", "kinds", "hidden");
            default -> "deeds";
        };
    }

    private String number(int most) {
        int n = random.nextInt(50) == 0 ? most + 1 : upTo(most);
        return random.nextInt(30) == 0 ? "00000" + n : "" + n;
    }

    private String clause() {
        String word = pick("weight", "weight", "sticks", "lie", "up", "heart", "heart", "deed", "deed", "deed", "judge", "lend", "weigh", "lay", "lay", "yes", "no", "end");
        return switch (word) {
            case "heart" -> "heart " + number(either() ? 40 : 999) + ";";
            case "deed" -> {
                StringBuilder s = new StringBuilder("deed " + number(9) + " size " + number(99) + " of " + number(either() ? 1 : 5));
                for (int i = random.nextInt(3); i > 0; i--) s.append(pick(",", ", ")).append(pick("seen", "repaid", "fear"));
                yield s + ";";
            }
            case "judge" -> {
                StringBuilder s = new StringBuilder("judge " + number(9));
                for (int i = random.nextInt(3); i > 0; i--) s.append(",").append(number(9));
                yield s + ";";
            }
            case "lend" -> "lend " + number(either() ? 1 : 5) + " to " + number(either() ? 1 : 5) + " by " + number(99) + ";";
            case "weigh" -> "weigh " + number(either() ? 1 : 5) + ";";
            case "lay" -> "lay " + number(either() ? 3 : 23) + ";";
            case "yes", "no" -> word + " " + number(either() ? 1 : 7) + ";";
            case "end" -> "end;";
            default -> word + " " + sum(word, 0) + ";";
        };
    }

    private String spoiled(String s) {
        StringBuilder b = new StringBuilder(s);
        int at = upTo(Math.max(0, b.length() - 1));
        switch (random.nextInt(5)) {
            case 0 -> b.insert(at, pick(";", ",", "(", ")", "|", "-", "+", "#", "<=", ">", "=", "@", "\t", "\0", "\u00e9", "\n", " ", "9", "a", "Z", "((((((((((", "|||||||||", "---------"));
            case 1 -> b.setLength(at);
            case 2 -> {
                if (b.length() > 0) b.deleteCharAt(at);
            }
            case 3 -> b.append(pick("weight", "end", "end;end;", "lie 1;", "  ", "\n", "feather", "3"));
            default -> b.insert(at, pick("seen", "heart", "size ", "of", "to 1", "lies", "10000", "shown", "weight 1;"));
        }
        return b.toString();
    }

    private void readText() throws Exception {
        StringBuilder s = new StringBuilder();
        int many = random.nextInt(20) == 0 ? 30 : random.nextInt(9);
        for (int i = 0; i < many; i++) s.append(many == 30 && random.nextInt(20) != 0 ? pick("end;", "lay 1;") : clause());
        String text = s.toString();
        if (random.nextInt(3) == 0) text = spoiled(text);
        readText(text.length() > 300 ? text.substring(0, 300) : text);
    }

    private void readText(String text) throws Exception {
        if (text.length() > 300) text = "";
        call("end", 0);
        for (int at = 0; at < text.length(); at += 20) {
            int[] fours = new int[5];
            for (int i = 0; i < 20; i++) {
                int b = at + i < text.length() ? text.charAt(at + i) & 255 : 0;
                fours[i / 4] = fours[i / 4] << 8 | b;
            }
            call("feed", fours[0], fours[1], fours[2], fours[3], fours[4]);
        }
        call("end", text.length());
        call("text");
        call("fault", 0);
        call("fault", 1);
        call("about", 11);
    }

    // ---- a run

    private void go() throws Exception {
        switch (seed % 6) {
            case 0 -> lendings();
            case 1 -> denials();
            case 2 -> laws();
            case 3 -> orders();
            default -> allSorts();
        }
        lookAtAll();
    }

    /** Hearts about their feathers, with bonds that suffice or just don't. */
    private void lendings() throws Exception {
        for (int h = 0; h < 6; h++) call("heart", random.nextInt(30));
        for (int round = 0; round < 8; round++) {
            if (either()) call("deed", upTo(5), 1, upTo(40), 0, -1);
            int most = pickOne(3, 12, 40, 99);
            for (int i = 0; i < 30; i++) call("bond", upTo(5), upTo(5), upTo(most));
            call("whoCannot");
            call("lending", -1, 0);
            for (int f = 0; f < 6; f++) for (int t = 0; t < 6; t++) call("lending", f, t);
        }
    }

    /** Hearts with judges, and lies that may or may not be too heavy. */
    private void denials() throws Exception {
        for (int h = 0; h < 3; h++) call("heart", 10 + random.nextInt(60));
        for (int d = 0; d < 9; d++) call("deed", upTo(2), upTo(9), upTo(12), upTo(7), -1);
        for (int j = 2 + upTo(6); j > 0; j--) call("judge", 1 + upTo(1022) & (either() ? 1023 : upTo(1023)) | 1 << upTo(9));
        call("stick", upTo(12));
        if (either()) call("lend", 0, 1, upTo(20));
        for (int t = 0; t < 4; t++) {
            readText(pick("", "weight size-" + upTo(9) + "*seen;") + "lie " + sum("lie", 0) + ";" + pick("", "sticks " + sum("sticks", 0) + ";", "sticks laid;"));
            call("by", t - (either() ? 1 : 0));
            for (int h = 0; h < 3; h++) {
                call("truly", h);
                for (int y = 0; y <= 8; y++) call("lies", h, y);
            }
        }
    }

    /** Laws that look alike, and what is known by one of them. */
    private void laws() throws Exception {
        for (int h = 0; h < 4; h++) call("heart", random.nextInt(200));
        for (int d = 4 + upTo(8); d > 0; d--) call("deed", upTo(3), upTo(9), upTo(9), upTo(7), pickOne(-1, 0, 1));
        for (int t = 0; t < 4; t++) {
            readText("weight " + upTo(2) + "*size" + pick("", "+seen", "-repaid", "+2*fear", "+seen-fear") + pick("", "", "+bid", "+kind/8", "*heart", "-heart*seen") + ";");
            call("tells");
        }
        int[] law = {random.nextInt(7) - 3, random.nextInt(7) - 3, random.nextInt(7) - 3, random.nextInt(7) - 3};
        for (int round = 0; round < 10; round++) {
            call("by", upTo(4) - 1);
            int h = upTo(3);
            call("known", h, either() ? model.ofHeart(h, 2) : linear(law, h));
            call("fit");
            call("tells");
            for (int i = 0; i < 4; i++) call("smallest", i);
            call("should", upTo(15));
            call("featherForAll", true);
            call("featherForAll", false);
            if (random.nextInt(3) == 0) call("known", -1, 0);
        }
    }

    private int linear(int[] law, int heart) {
        int sum = 0;
        for (int d = 0; d < model.about(1); d++) {
            int marks = model.ofDeed(d, 3);
            if (model.ofDeed(d, 0) == heart) sum += law[0] * model.ofDeed(d, 2) + law[1] * (marks & 1) + law[2] * (marks >> 1 & 1) + law[3] * (marks >> 2);
        }
        return sum;
    }

    /** All orders of up to six deeds, with and without a law of how the pan sticks. */
    private void orders() throws Exception {
        for (int h = 0; h < 3; h++) call("heart", random.nextInt(60));
        for (int h = 0; h < 3; h++) for (int d = 2 + upTo(h == 0 ? 4 : 3); d > 0; d--) call("deed", h, upTo(9), upTo(20), upTo(7), -1);
        for (int t = 0; t < 3; t++) {
            call("stick", upTo(20));
            if (either()) call("lend", upTo(2), upTo(2), upTo(30));
            readText("weight size*" + upTo(2) + "+" + sum("weight", 5) + ";" + pick("", "sticks " + sum("sticks", 0) + ";"));
            call("by", t - upTo(1));
            for (int h = 0; h < 3; h++) {
                for (int i = -1; i < 7; i++) {
                    boolean heavy = either();
                    call("lightest", h, heavy, i);
                    if (i < 2 || either()) call("passing", h, i);
                }
                call("orderless", h);
                call("sticking", h);
            }
        }
    }

    private int pickOne(int... of) {
        return of[random.nextInt(of.length)];
    }

    private void allSorts() throws Exception {
        boolean small = either();
        for (int i = upTo(6); i > 0; i--) call("heart", small ? upTo(40) : near(999));
        for (int i = upTo(either() ? 12 : 24); i > 0; i--) tellDeed(small);
        for (int i = upTo(3); i > 0; i--) call("judge", upTo(1023) & upTo(1023));
        while (done.size() < CALLS && !wrong) aCall(small);
    }

    private void tellDeed(boolean small) throws Exception {
        call("deed", aHeart(), near(9), near(small ? 12 : 99), near(7), either() ? -1 : aHeart());
    }

    private void aCall(boolean small) throws Exception {
        switch (random.nextInt(26)) {
            case 0 -> call("heart", small ? upTo(40) : near(999));
            case 1 -> tellDeed(small);
            case 2 -> call("witness", aDeed(), aSet(model.about(0)));
            case 3 -> {
                if (random.nextInt(3) == 0) call("judge", aSet(10));
                else call("isSo", aJudge(), aHeart());
            }
            case 4 -> call("stick", small ? upTo(9) : near(99));
            case 5 -> call("bond", aHeart(), aHeart(), near(small ? 20 : 99));
            case 6 -> {
                if (random.nextInt(4) == 0) readText();
                else call("by", near(Math.max(0, model.about(6) - 1)));
            }
            case 7 -> call("lend", aHeart(), aHeart(), near(small ? 9 : 99));
            case 8 -> call("weigh", aHeart());
            case 9, 10 -> call("lay", aDeed());
            case 11 -> call("answer", aJudge(), either());
            case 12 -> call("judged");
            case 13 -> call("played", near(Math.max(0, model.about(6) - 1)));
            case 14 -> {
                if (random.nextInt(3) == 0) call("day", near(9999), near(20));
                else call("scale", near(5));
            }
            case 15 -> {
                for (int i = random.nextInt(20) == 0 ? 32 : 1 + random.nextInt(3); i > 0; i--) call("undo");
            }
            case 16 -> call("ofHeart", aHeart(), either() ? near(4) : 10 + aHeart());
            case 17 -> call("ofDeed", aDeed(), near(6));
            case 18 -> call("book", itsIndex(30), near(4));
            case 19 -> search();
            case 20 -> {
                call("lending", either() ? -1 : aHeart(), aHeart());
                call("whoCannot");
            }
            case 21 -> {
                int many = model.about(1);
                call("kindness", either() ? 1 << upTo(Math.max(0, many - 1)) | 1 << upTo(Math.max(0, many - 1)) : aSet(Math.min(24, many)));
            }
            case 22 -> fits();
            case 23 -> {
                call("should", aSet(model.about(0)));
                call("featherForAll", either());
            }
            case 24 -> {
                call("odds", near(10), near(15), either());
                call("often", near(10), near(100));
            }
            default -> seldom();
        }
    }

    private void search() throws Exception {
        int heart = aHeart();
        // the model is slow where all orders of 6 or 7 deeds are asked for
        boolean many = heart >= 0 && Integer.bitCount(Math.max(0, model.ofHeart(heart, 1))) > 5;
        if (many && random.nextInt(6) != 0) heart = -1;
        switch (random.nextInt(6)) {
            case 0 -> call("lightest", heart, either(), itsIndex(4));
            case 1 -> call("passing", heart, itsIndex(4));
            case 2 -> call("orderless", heart);
            case 3 -> call("sticking", aHeart());
            case 4 -> call("truly", aHeart());
            default -> call("lies", aHeart(), near(8));
        }
    }

    private void fits() throws Exception {
        int heart = aHeart();
        int weight = near(9999);
        if (heart >= 0 && heart < model.about(0)) {
            int how = random.nextInt(4);
            if (how == 0) weight = model.ofHeart(heart, 2);
            if (how == 1) weight = model.ofHeart(heart, 2) + random.nextInt(5) - 2;
        }
        call("known", random.nextInt(5) == 0 ? -1 : heart, weight);
        call("fit");
        call("tells");
        if (random.nextInt(3) == 0) for (int i = 0; i < 4; i++) call("smallest", i);
        else call("smallest", near(3));
    }

    private void seldom() throws Exception {
        switch (random.nextInt(10)) {
            case 0, 1 -> call("image");
            case 2 -> {
                if (random.nextInt(3) == 0) call("back");
            }
            case 3 -> call("feed", random.nextInt(), random.nextInt(), random.nextInt(), random.nextInt(), random.nextInt());
            case 4 -> call("end", near(40));
            case 5 -> call("text");
            case 6 -> call("fault", near(1));
            case 7 -> call("by", -1);
            default -> call("about", near(11));
        }
    }

    private void lookAtAll() throws Exception {
        for (int i = -1; i < 13; i++) call("about", i);
        for (int i = -1; i < 7; i++) call("scale", i);
        for (int i = -1; i < 31; i++) for (int k = -1; k < 6; k++) call("book", i, k);
        for (int h = -1; h < 7; h++) for (int k = -1; k < 17; k++) call("ofHeart", h, k);
        for (int d = -1; d < 25; d++) for (int k = -1; k < 8; k++) call("ofDeed", d, k);
        for (int j = -1; j < 9; j++) for (int h = -1; h < 7; h++) call("isSo", j, h);
        for (int i = 0; i < 32; i++) {
            call("undo");
            for (int k = 0; k < 6; k++) call("scale", k);
            call("book", 0, 1);
            call("book", 29, 2);
            call("about", 4);
            call("about", 5);
        }
        call("back");
        for (int i = -1; i < 13; i++) call("about", i);
    }
}
