import java.math.BigInteger;
import java.util.ArrayDeque;
import java.util.ArrayList;
import java.util.Arrays;
import java.util.Comparator;
import java.util.Deque;
import java.util.HashMap;
import java.util.HashSet;
import java.util.LinkedHashMap;
import java.util.List;
import java.util.Map;
import java.util.Set;
import java.util.TreeMap;
import java.util.function.ToIntFunction;
import java.util.regex.Matcher;
import java.util.regex.Pattern;

/** The document once more, as plain and slow as can be, with the Java library: what ModelTests compares the class with. */
public final class PlainModel {
    static final int NONE = -1;

    interface Expr {
        int value(Map<String, Integer> names);
    }

    record Deed(int heart, int kind, int size, int marks, int bid) {
        int mark(int bit) {
            return (marks & bit) == 0 ? 0 : 1;
        }
    }

    record Clause(String word, List<Integer> parts) { }

    record Script(Map<String, Expr> laws, List<Clause> clauses) { }

    record Weighing(int heart, int truth, int shown, int lies, Set<Integer> laid, Set<Integer> answered) { }

    record Entry(int heart, int shown, int truth, int lies, int which) { }

    /** What a step brings back: all immutable. */
    record Past(Weighing weighing, Map<List<Integer>, Integer> lent, int ill, List<Entry> book, int x) { }

    static final class World {
        List<Integer> feathers = new ArrayList<>();
        List<Deed> deeds = new ArrayList<>();
        List<Integer> witnesses = new ArrayList<>();
        List<Set<Integer>> judges = new ArrayList<>();
        int stick = 1;
        Map<List<Integer>, Integer> bonds = new HashMap<>();
        List<Script> texts = new ArrayList<>();
        int ruling = NONE;
        List<int[]> known = new ArrayList<>();
        int should = 0;
        Past now = new Past(null, Map.of(), 0, List.of(), 19);
        List<Past> steps = new ArrayList<>();

        World copy() {
            World w = new World();
            w.feathers = new ArrayList<>(feathers);
            w.deeds = new ArrayList<>(deeds);
            w.witnesses = new ArrayList<>(witnesses);
            w.judges = new ArrayList<>(judges);
            w.stick = stick;
            w.bonds = new HashMap<>(bonds);
            w.texts = new ArrayList<>(texts);
            w.ruling = ruling;
            w.known = new ArrayList<>(known);
            w.should = should;
            w.now = now;
            w.steps = new ArrayList<>(steps);
            return w;
        }
    }

    private World w = new World();
    private World kept = new World();
    private final List<Integer> tape = new ArrayList<>();
    private int[] latest = null;

    // ---- what is told

    private boolean isHeart(int h) {
        return 0 <= h && h < w.feathers.size();
    }

    private boolean isDeed(int d) {
        return 0 <= d && d < w.deeds.size();
    }

    private boolean isJudge(int j) {
        return 0 <= j && j < w.judges.size();
    }

    private static boolean in(int v, int least, int most) {
        return least <= v && v <= most;
    }

    public int heart(int feather) {
        if (!in(feather, 0, 999) || w.feathers.size() == 6) return NONE;
        w.feathers.add(feather);
        return w.feathers.size() - 1;
    }

    public int deed(int heart, int kind, int size, int marks, int bid) {
        if (!isHeart(heart) || !in(kind, 0, 9) || !in(size, 0, 99) || !in(marks, 0, 7)) return NONE;
        if (bid != NONE && (!isHeart(bid) || bid == heart)) return NONE;
        if (w.deeds.size() == 24) return NONE;
        w.deeds.add(new Deed(heart, kind, size, marks, bid));
        w.witnesses.add(0);
        return w.deeds.size() - 1;
    }

    public boolean witness(int deed, int hearts) {
        if (!isDeed(deed) || !in(hearts, 0, (1 << w.feathers.size()) - 1)) return false;
        w.witnesses.set(deed, hearts);
        return true;
    }

    public int judge(int kinds) {
        if (!in(kinds, 1, 1023) || w.judges.size() == 8) return NONE;
        w.judges.add(setOf(kinds));
        return w.judges.size() - 1;
    }

    public boolean stick(int grains) {
        if (!in(grains, 0, 99)) return false;
        w.stick = grains;
        return true;
    }

    public boolean bond(int from, int to, int most) {
        if (!isHeart(from) || !isHeart(to) || from == to || !in(most, 0, 99)) return false;
        w.bonds.put(List.of(from, to), most);
        return true;
    }

    // ---- the tape and the texts

    public int feed(int a, int b, int c, int d, int e) {
        if (tape.size() > 280) return NONE;
        for (int four : new int[] {a, b, c, d, e}) {
            tape.add(four >>> 24);
            tape.add(four >>> 16 & 255);
            tape.add(four >>> 8 & 255);
            tape.add(four & 255);
        }
        return tape.size();
    }

    public int end(int n) {
        if (n < 0 || n > tape.size()) return NONE;
        while (tape.size() > n) tape.remove(tape.size() - 1);
        return n;
    }

    public int text() {
        if (w.texts.size() == 4) return NONE;
        StringBuilder text = new StringBuilder();
        for (int b : tape) text.append((char) b);
        tape.clear();
        try {
            w.texts.add(new Parser(text.toString()).script());
            latest = new int[] {0, NONE};
            return w.texts.size() - 1;
        } catch (Fault f) {
            latest = new int[] {f.code, f.place};
            return NONE;
        }
    }

    public int fault(int what) {
        return latest == null || !in(what, 0, 1) ? NONE : latest[what];
    }

    public boolean by(int text) {
        if (!in(text, -1, w.texts.size() - 1)) return false;
        w.ruling = text;
        return true;
    }

    static final class Fault extends RuntimeException {
        private static final long serialVersionUID = 1L;
        final int code;
        final int place;

        Fault(int code, int place) {
            this.code = code;
            this.place = place;
        }
    }

    record Token(String text, int place) { }

    static final class Parser {
        private static final Pattern TOKEN = Pattern.compile("[ \\n]*([a-zA-Z]+|[0-9]+|<=|>=|[^ \\n])", Pattern.DOTALL);
        private static final Map<String, Set<String>> NAMES = Map.of(
            "weight", Set.of("heart", "feather", "kind", "size", "seen", "repaid", "fear", "bid"),
            "sticks", Set.of("heart", "feather", "shown", "laid"),
            "lie", Set.of("heart", "feather", "lies", "judge", "kinds", "hidden"),
            "up", Set.of("heart", "feather", "deeds"));
        private static final Set<String> ALL_NAMES = new HashSet<>();

        static {
            NAMES.values().forEach(ALL_NAMES::addAll);
        }

        private final Deque<Token> tokens = new ArrayDeque<>();
        private final Map<String, Expr> laws = new HashMap<>();
        private final List<Clause> clauses = new ArrayList<>();

        Parser(String text) {
            Matcher m = TOKEN.matcher(text);
            while (m.find()) tokens.add(new Token(m.group(1), m.start(1)));
            tokens.add(new Token("", text.length()));
        }

        Script script() {
            while (!tokens.peek().text.isEmpty()) clause();
            return new Script(laws, clauses);
        }

        private Fault fault(int code) {
            return new Fault(code, tokens.peek().place);
        }

        private void clause() {
            String word = tokens.peek().text;
            if (!Set.of("weight", "sticks", "lie", "up", "heart", "deed", "judge", "lend", "weigh", "lay", "yes", "no", "end").contains(word)) throw fault(1);
            if (laws.containsKey(word)) throw fault(4);
            if (clauses.size() == 24) throw fault(6);
            tokens.poll();
            List<Integer> parts = new ArrayList<>();
            switch (word) {
                case "heart" -> parts.add(number(999));
                case "deed" -> deed(parts);
                case "judge" -> {
                    Set<Integer> kinds = new HashSet<>();
                    do {
                        if (!parts.isEmpty()) tokens.poll();
                        Fault twice = fault(4);
                        int kind = number(9);
                        if (!kinds.add(kind)) throw twice;
                        parts.add(kind);
                    } while (tokens.peek().text.equals(","));
                }
                case "lend" -> {
                    parts.add(number(5));
                    expect("to");
                    parts.add(number(5));
                    expect("by");
                    parts.add(number(99));
                }
                case "weigh" -> parts.add(number(5));
                case "lay" -> parts.add(number(23));
                case "yes", "no" -> parts.add(number(7));
                case "end" -> { }
                default -> laws.put(word, sum(NAMES.get(word), 0));
            }
            expect(";");
            clauses.add(new Clause(word, parts));
        }

        private void deed(List<Integer> parts) {
            parts.add(number(9));
            expect("size");
            parts.add(number(99));
            expect("of");
            parts.add(number(5));
            Map<String, Integer> words = Map.of("seen", 1, "repaid", 2, "fear", 4);
            int marks = 0;
            while (tokens.peek().text.equals(",")) {
                tokens.poll();
                Integer mark = words.get(tokens.peek().text);
                if (mark == null) throw fault(1);
                if ((marks & mark) != 0) throw fault(4);
                marks += mark;
                tokens.poll();
            }
            parts.add(marks);
        }

        private int number(int most) {
            String digits = tokens.peek().text;
            if (digits.isEmpty() || !Character.isDigit(digits.charAt(0)) || digits.charAt(0) > '9') throw fault(1);
            BigInteger value = new BigInteger(digits);
            if (value.compareTo(BigInteger.valueOf(most)) > 0) throw fault(2);
            tokens.poll();
            return value.intValue();
        }

        private void expect(String text) {
            if (!tokens.peek().text.equals(text)) throw fault(1);
            tokens.poll();
        }

        private static int cut(BigInteger v) {
            BigInteger most = BigInteger.valueOf(1000000);
            return v.min(most).max(most.negate()).intValue();
        }

        private Expr sum(Set<String> names, int open) {
            Expr left = product(names, open);
            while (tokens.peek().text.equals("+") || tokens.peek().text.equals("-")) {
                boolean plus = tokens.poll().text.equals("+");
                Expr a = left;
                Expr b = product(names, open);
                left = n -> {
                    BigInteger x = BigInteger.valueOf(a.value(n));
                    BigInteger y = BigInteger.valueOf(b.value(n));
                    return cut(plus ? x.add(y) : x.subtract(y));
                };
            }
            return left;
        }

        private Expr product(Set<String> names, int open) {
            Expr left = one(names, open);
            while (tokens.peek().text.equals("*") || tokens.peek().text.equals("/")) {
                boolean times = tokens.poll().text.equals("*");
                Expr a = left;
                Expr b = one(names, open);
                left = n -> {
                    BigInteger x = BigInteger.valueOf(a.value(n));
                    BigInteger y = BigInteger.valueOf(b.value(n));
                    if (times) return cut(x.multiply(y));
                    return y.signum() == 0 ? 0 : cut(x.divide(y));
                };
            }
            return left;
        }

        private Expr one(Set<String> names, int open) {
            String text = tokens.peek().text;
            if (text.matches("[0-9]+")) {
                int value = number(9999);
                return n -> value;
            }
            if (ALL_NAMES.contains(text)) {
                if (!names.contains(text)) throw fault(5);
                tokens.poll();
                return n -> n.get(text);
            }
            if (!Set.of("(", "|", "-").contains(text)) throw fault(1);
            if (open == 8) throw fault(3);
            tokens.poll();
            if (text.equals("-")) {
                Expr a = one(names, open + 1);
                return n -> -a.value(n);
            }
            Expr inner = sum(names, open + 1);
            expect(text.equals("(") ? ")" : "|");
            return text.equals("(") ? inner : n -> Math.abs(inner.value(n));
        }
    }

    // ---- the laws

    private static Set<Integer> setOf(int bits) {
        Set<Integer> set = new HashSet<>();
        for (int i = 0; i < 31; i++) if ((bits >> i & 1) == 1) set.add(i);
        return set;
    }

    private static int bitsOf(Iterable<Integer> set) {
        int bits = 0;
        for (int i : set) bits |= 1 << i;
        return bits;
    }

    private int byLaw(int text, String law, int least, int most, int without, Map<String, Integer> names, int heart) {
        Expr e = text == NONE ? null : w.texts.get(text).laws.get(law);
        if (e == null) return without;
        names.put("heart", heart);
        names.put("feather", w.feathers.get(heart));
        return Math.min(most, Math.max(least, e.value(names)));
    }

    private int weightBy(int text, int d) {
        Deed deed = w.deeds.get(d);
        Map<String, Integer> names = new HashMap<>();
        names.put("kind", deed.kind);
        names.put("size", deed.size);
        names.put("seen", deed.mark(1));
        names.put("repaid", deed.mark(2));
        names.put("fear", deed.mark(4));
        names.put("bid", deed.bid == NONE ? 0 : 1);
        return byLaw(text, "weight", -999, 999, deed.size, names, deed.heart);
    }

    private int weight(int d) {
        return weightBy(w.ruling, d);
    }

    private List<Integer> deedsOf(int heart) {
        List<Integer> own = new ArrayList<>();
        for (int d = 0; d < w.deeds.size(); d++) if (w.deeds.get(d).heart == heart) own.add(d);
        return own;
    }

    private int burdenBy(int text, int heart) {
        return deedsOf(heart).stream().mapToInt(d -> weightBy(text, d)).sum();
    }

    private boolean so(int judge, int heart) {
        return deedsOf(heart).stream().anyMatch(d -> weight(d) > 0 && w.judges.get(judge).contains(w.deeds.get(d).kind));
    }

    private Weighing settle(Weighing g, int stick) {
        Map<String, Integer> names = new HashMap<>();
        names.put("shown", g.shown);
        names.put("laid", g.laid.size());
        int sticks = byLaw(w.ruling, "sticks", 0, 99, stick, names, g.heart);
        boolean moves = Math.abs(g.shown - g.truth) > sticks;
        return new Weighing(g.heart, g.truth, moves ? g.truth : g.shown, g.lies, g.laid, g.answered);
    }

    private int lent(int from, int to) {
        return w.now.lent.getOrDefault(List.of(from, to), 0);
    }

    private int net(int heart) {
        int sum = 0;
        for (int o = 0; o < w.feathers.size(); o++) sum += lent(o, heart) - lent(heart, o);
        return sum;
    }

    private Weighing begun(int heart, int stick) {
        return settle(new Weighing(heart, net(heart), 0, 0, Set.of(), Set.of()), stick);
    }

    private static Set<Integer> with(Set<Integer> set, int one) {
        Set<Integer> more = new HashSet<>(set);
        more.add(one);
        return more;
    }

    private Weighing laid(Weighing g, int d, int stick) {
        return settle(new Weighing(g.heart, g.truth + weight(d), g.shown, g.lies, with(g.laid, d), g.answered), stick);
    }

    private Weighing answered(Weighing g, int j, boolean yes) {
        Set<Integer> all = with(g.answered, j);
        if (yes == so(j, g.heart)) return new Weighing(g.heart, g.truth, g.shown, g.lies, g.laid, all);
        Map<String, Integer> names = new HashMap<>();
        names.put("lies", g.lies);
        names.put("judge", j);
        names.put("kinds", w.judges.get(j).size());
        names.put("hidden", (int) deedsOf(g.heart).stream().map(w.deeds::get)
            .filter(d -> d.mark(1) == 0 && w.judges.get(j).contains(d.kind)).count());
        int lie = byLaw(w.ruling, "lie", 0, 999, 3, names, g.heart);
        return settle(new Weighing(g.heart, g.truth + lie, g.shown, g.lies + 1, g.laid, all), w.stick);
    }

    private int which(Weighing g) {
        Map<String, Integer> names = new HashMap<>();
        names.put("deeds", deedsOf(g.heart).size());
        int feather = w.feathers.get(g.heart);
        if (g.shown > feather) return 0;
        return g.shown + byLaw(w.ruling, "up", 0, 999, 50, names, g.heart) < feather ? 2 : 1;
    }

    // ---- by hand, by scripts, by draws

    private void step(Past past) {
        w.steps.add(past);
        if (w.steps.size() > 30) w.steps.remove(0);
    }

    private void set(Weighing g) {
        w.now = new Past(g, w.now.lent, w.now.ill, w.now.book, w.now.x);
    }

    public boolean lend(int from, int to, int weight) {
        if (!isHeart(from) || !isHeart(to) || from == to || !in(weight, 0, 99) || lent(from, to) == weight) return false;
        step(w.now);
        Map<List<Integer>, Integer> lent = new HashMap<>(w.now.lent);
        lent.put(List.of(from, to), weight);
        w.now = new Past(w.now.weighing, lent, w.now.ill, w.now.book, w.now.x);
        return true;
    }

    public int weigh(int heart) {
        if (!isHeart(heart)) return -100000;
        step(w.now);
        set(begun(heart, w.stick));
        return w.now.weighing.shown;
    }

    public int lay(int deed) {
        Weighing g = w.now.weighing;
        if (g == null || !isDeed(deed) || w.deeds.get(deed).heart != g.heart || g.laid.contains(deed)) return -100000;
        step(w.now);
        set(laid(g, deed, w.stick));
        return w.now.weighing.shown;
    }

    public int answer(int judge, boolean yes) {
        Weighing g = w.now.weighing;
        if (g == null || !isJudge(judge) || g.answered.contains(judge)) return NONE;
        step(w.now);
        set(answered(g, judge, yes));
        return w.now.weighing.lies - g.lies;
    }

    private int judgeNow() {
        Weighing g = w.now.weighing;
        int which = which(g);
        int ill = which == 0 ? Math.min(9999, w.now.ill + g.shown - w.feathers.get(g.heart)) : w.now.ill;
        List<Entry> book = new ArrayList<>(w.now.book);
        book.add(new Entry(g.heart, g.shown, g.truth, g.lies, which));
        if (book.size() > 30) book.remove(0);
        w.now = new Past(null, w.now.lent, ill, book, w.now.x);
        return which;
    }

    public int judged() {
        if (w.now.weighing == null) return NONE;
        step(w.now);
        return judgeNow();
    }

    public int played(int text) {
        if (!in(text, 0, w.texts.size() - 1)) return -2;
        List<Clause> clauses = w.texts.get(text).clauses;
        for (int i = 0; i < clauses.size(); i++) {
            List<Integer> p = clauses.get(i).parts;
            boolean done = switch (clauses.get(i).word) {
                case "heart" -> heart(p.get(0)) != NONE;
                case "deed" -> deed(p.get(2), p.get(0), p.get(1), p.get(3), NONE) != NONE;
                case "judge" -> judge(bitsOf(p)) != NONE;
                case "lend" -> lend(p.get(0), p.get(1), p.get(2));
                case "weigh" -> weigh(p.get(0)) != -100000;
                case "lay" -> lay(p.get(0)) != -100000;
                case "yes" -> answer(p.get(0), true) != NONE;
                case "no" -> answer(p.get(0), false) != NONE;
                case "end" -> judged() != NONE;
                default -> true;
            };
            if (!done) return i;
        }
        return NONE;
    }

    private int x() {
        int x = w.now.x;
        w.now = new Past(w.now.weighing, w.now.lent, w.now.ill, w.now.book, (int) ((x * 223L + 109) % 30161));
        return x;
    }

    public int day(int seed, int n) {
        if (!in(seed, 0, 9999) || !in(n, 1, 20) || w.feathers.isEmpty()) return NONE;
        step(w.now);
        w.now = new Past(null, w.now.lent, w.now.ill, w.now.book, seed * 2 + 19);
        int heavy = 0;
        for (int i = 0; i < n; i++) {
            int heart = x() % w.feathers.size();
            set(begun(heart, w.stick));
            List<Integer> own = deedsOf(heart);
            int first = x();
            for (int k = 0; k < own.size(); k++) set(laid(w.now.weighing, own.get((first + k) % own.size()), w.stick));
            for (int j = 0; j < w.judges.size(); j++) set(answered(w.now.weighing, j, x() % 10 >= 5 && so(j, heart)));
            if (judgeNow() == 0) heavy++;
        }
        return heavy;
    }

    public int undo() {
        if (w.steps.isEmpty()) return NONE;
        w.now = w.steps.remove(w.steps.size() - 1);
        return w.steps.size();
    }

    // ---- what is

    public int scale(int what) {
        Weighing g = w.now.weighing;
        if (g == null || !in(what, 0, 5)) return -100000;
        return List.of(g.heart, g.truth, g.shown, g.lies, bitsOf(g.laid), bitsOf(g.answered)).get(what);
    }

    public int ofHeart(int heart, int what) {
        if (!isHeart(heart)) return -100000;
        if (what >= 10 && isHeart(what - 10)) return lent(heart, what - 10);
        return switch (what) {
            case 0 -> w.feathers.get(heart);
            case 1 -> bitsOf(deedsOf(heart));
            case 2 -> burdenBy(w.ruling, heart);
            case 3 -> w.feathers.get(heart) - burdenBy(w.ruling, heart);
            case 4 -> net(heart);
            default -> -100000;
        };
    }

    public int ofDeed(int deed, int what) {
        if (!isDeed(deed)) return -100000;
        Deed d = w.deeds.get(deed);
        return switch (what) {
            case 0 -> d.heart;
            case 1 -> d.kind;
            case 2 -> d.size;
            case 3 -> d.marks;
            case 4 -> d.bid;
            case 5 -> w.witnesses.get(deed);
            case 6 -> weight(deed);
            default -> -100000;
        };
    }

    public int isSo(int judge, int heart) {
        if (!isJudge(judge) || !isHeart(heart)) return NONE;
        return so(judge, heart) ? 1 : 0;
    }

    public int book(int i, int what) {
        if (i == NONE) return w.now.book.size();
        if (!in(i, 0, w.now.book.size() - 1) || !in(what, 0, 4)) return -100000;
        Entry e = w.now.book.get(i);
        return List.of(e.heart, e.shown, e.truth, e.lies, e.which).get(what);
    }

    // ---- what would be

    private static void orders(List<Integer> head, List<Integer> rest, List<List<Integer>> all) {
        if (rest.isEmpty()) all.add(head);
        for (Integer d : rest) {
            List<Integer> longer = new ArrayList<>(head);
            longer.add(d);
            List<Integer> fewer = new ArrayList<>(rest);
            fewer.remove(d);
            orders(longer, fewer, all);
        }
    }

    private int endOf(int heart, List<Integer> order, int stick) {
        Weighing g = begun(heart, stick);
        for (int d : order) g = laid(g, d, stick);
        return g.shown;
    }

    /** Each order with its END, the first order first. */
    private Map<List<Integer>, Integer> ends(int heart, int most, int stick) {
        if (!isHeart(heart) || deedsOf(heart).size() > most) return null;
        List<List<Integer>> all = new ArrayList<>();
        orders(List.of(), deedsOf(heart), all);
        Map<List<Integer>, Integer> ends = new LinkedHashMap<>();
        for (List<Integer> order : all) ends.put(order, endOf(heart, order, stick));
        return ends;
    }

    public int lightest(int heart, boolean heavy, int i) {
        Map<List<Integer>, Integer> ends = ends(heart, 7, w.stick);
        if (ends == null) return -100000;
        int best = heavy ? ends.values().stream().max(Comparator.naturalOrder()).get() : ends.values().stream().min(Comparator.naturalOrder()).get();
        if (i == NONE) return best;
        for (var e : ends.entrySet()) if (e.getValue() == best) return in(i, 0, e.getKey().size() - 1) ? e.getKey().get(i) : -100000;
        throw new IllegalStateException();
    }

    public int passing(int heart, int i) {
        Map<List<Integer>, Integer> ends = ends(heart, 7, w.stick);
        if (ends == null) return -2;
        for (var e : ends.entrySet()) {
            if (e.getValue() <= w.feathers.get(heart)) {
                if (i == NONE) return 1;
                return in(i, 0, e.getKey().size() - 1) ? e.getKey().get(i) : -2;
            }
        }
        return i == NONE ? 0 : -2;
    }

    public int orderless(int heart) {
        Map<List<Integer>, Integer> ends = ends(heart, 7, w.stick);
        return ends == null ? NONE : new HashSet<>(ends.values()).size() == 1 ? 1 : 0;
    }

    public int sticking(int heart) {
        if (w.ruling != NONE && w.texts.get(w.ruling).laws.containsKey("sticks")) return NONE;
        if (!isHeart(heart) || deedsOf(heart).size() > 5) return NONE;
        int s = 0;
        while (s < 100 && new HashSet<>(ends(heart, 5, s).values()).size() == 1) s++;
        return s - 1;
    }

    public int truly(int heart) {
        if (!isHeart(heart)) return NONE;
        int bits = 0;
        for (int j = 0; j < w.judges.size(); j++) if (!so(j, heart)) bits |= 1 << j;
        return bits;
    }

    public int lies(int heart, int y) {
        if (!isHeart(heart) || !in(y, 0, 8)) return NONE;
        List<Integer> sets = new ArrayList<>();
        for (int set = 0; set < 1 << w.judges.size(); set++) {
            Weighing g = begun(heart, w.stick);
            for (int d : deedsOf(heart)) g = laid(g, d, w.stick);
            int yes = 0;
            boolean fair = true;
            for (int j = 0; j < w.judges.size(); j++) {
                boolean lie = (set >> j & 1) == 1;
                fair &= !lie || so(j, heart);
                boolean says = so(j, heart) && !lie;
                if (says) yes++;
                g = answered(g, j, says);
            }
            if (fair && yes <= y && which(g) != 0) sets.add(set);
        }
        return least(sets);
    }

    private static int least(List<Integer> sets) {
        return sets.stream().min(Comparator.<Integer>comparingInt(Integer::bitCount).thenComparingInt(s -> s)).orElse(NONE);
    }

    // ---- lending, kindness

    private int balance(int h) {
        return w.feathers.get(h) - burdenBy(w.ruling, h);
    }

    /** Whether all that is lacked can be taken, by paths that make the flow greater by one each. */
    private static boolean flows(int[] balance, Map<List<Integer>, Integer> most) {
        int n = balance.length;
        int[][] room = new int[n + 2][n + 2];
        int lack = 0;
        for (int h = 0; h < n; h++) {
            if (balance[h] < 0) room[n][h] = -balance[h];
            if (balance[h] > 0) room[h][n + 1] = balance[h];
            lack += Math.max(0, -balance[h]);
        }
        most.forEach((pair, v) -> room[pair.get(0)][pair.get(1)] = v);
        while (lack > 0 && path(room, n, n + 1, new boolean[n + 2])) lack--;
        return lack == 0;
    }

    private static boolean path(int[][] room, int from, int to, boolean[] been) {
        if (from == to) return true;
        been[from] = true;
        for (int next = 0; next < room.length; next++) {
            if (!been[next] && room[from][next] > 0 && path(room, next, to, been)) {
                room[from][next]--;
                room[next][from]++;
                return true;
            }
        }
        return false;
    }

    private Map<List<Integer>, Integer> solution() {
        int n = w.feathers.size();
        int[] balance = new int[n];
        for (int h = 0; h < n; h++) balance[h] = balance(h);
        int[] at = balance.clone();
        Map<List<Integer>, Integer> most = new TreeMap<>(Comparator.<List<Integer>>comparingInt(p -> p.get(0)).thenComparingInt(p -> p.get(1)));
        for (int f = 0; f < n; f++) {
            for (int t = 0; t < n; t++) {
                if (balance[f] < 0 && balance[t] > 0) most.put(List.of(f, t), w.bonds.getOrDefault(List.of(f, t), 0));
            }
        }
        if (!flows(at, most)) return null;
        Map<List<Integer>, Integer> numbers = new HashMap<>();
        for (List<Integer> pair : new ArrayList<>(most.keySet())) {
            int bond = most.get(pair);
            most.put(pair, 0);
            int v = 0;
            while (true) {
                int[] then = at.clone();
                then[pair.get(0)] = Math.min(0, then[pair.get(0)] + v);
                then[pair.get(1)] -= v;
                if (v > bond || then[pair.get(1)] < 0) throw new IllegalStateException();
                if (flows(then, most)) {
                    at = then;
                    numbers.put(pair, v);
                    break;
                }
                v++;
            }
        }
        return numbers;
    }

    public int lending(int from, int to) {
        Map<List<Integer>, Integer> numbers = solution();
        if (from == NONE) return numbers == null ? 0 : 1;
        if (!isHeart(from) || !isHeart(to) || from == to || numbers == null) return NONE;
        return numbers.getOrDefault(List.of(from, to), 0);
    }

    public int whoCannot() {
        int n = w.feathers.size();
        for (int set = 1; set < 1 << n; set++) {
            int lack = 0;
            int take = 0;
            boolean allBelow = true;
            for (int h = 0; h < n; h++) {
                if ((set >> h & 1) == 1) {
                    allBelow &= balance(h) < 0;
                    lack -= balance(h);
                } else {
                    int offered = 0;
                    for (int f = 0; f < n; f++) if ((set >> f & 1) == 1) offered += w.bonds.getOrDefault(List.of(f, h), 0);
                    take += Math.min(offered, Math.max(0, balance(h)));
                }
            }
            if (allBelow && lack > take) return set;
        }
        return NONE;
    }

    public int kindness(int deeds) {
        if (!in(deeds, 1, (1 << w.deeds.size()) - 1)) return NONE;
        List<Integer> sets = new ArrayList<>();
        for (int asked = 0; asked < 1 << w.feathers.size(); asked++) {
            int all = asked;
            if (setOf(deeds).stream().allMatch(d -> setOf(all).stream().anyMatch(h -> h != w.deeds.get(d).heart && (w.witnesses.get(d) >> h & 1) == 1))) sets.add(asked);
        }
        return least(sets);
    }

    // ---- laws that fit

    public int known(int heart, int weight) {
        if (heart == NONE) {
            w.known.clear();
            return 0;
        }
        if (!isHeart(heart) || !in(weight, -9999, 9999) || w.known.size() == 8) return -2;
        w.known.add(new int[] {heart, weight});
        return w.known.size();
    }

    public int fit() {
        int bits = 0;
        for (int t = 0; t < w.texts.size(); t++) {
            int text = t;
            if (w.known.stream().allMatch(k -> burdenBy(text, k[0]) == k[1])) bits |= 1 << t;
        }
        return bits;
    }

    public int smallest(int which) {
        if (!in(which, 0, 3)) return -100;
        int[] best = null;
        for (int a = -3; a <= 3; a++) for (int b = -3; b <= 3; b++) for (int c = -3; c <= 3; c++) for (int d = -3; d <= 3; d++) {
            int[] law = {a, b, c, d};
            ToIntFunction<Deed> weight = x -> law[0] * x.size + law[1] * x.mark(1) + law[2] * x.mark(2) + law[3] * x.mark(4);
            boolean fits = w.known.stream().allMatch(k -> deedsOf(k[0]).stream().mapToInt(x -> weight.applyAsInt(w.deeds.get(x))).sum() == k[1]);
            if (fits && (best == null || sizes(law) < sizes(best))) best = law;
        }
        return best == null ? -100 : best[which];
    }

    private static int sizes(int[] law) {
        return Arrays.stream(law).map(Math::abs).sum();
    }

    public int tells() {
        int best = NONE;
        int fewest = 100;
        for (int d = 0; d < w.deeds.size(); d++) {
            Map<Integer, Integer> alike = new HashMap<>();
            for (int t : setOf(fit())) alike.merge(weightBy(t, d), 1, Integer::sum);
            int most = alike.values().stream().max(Comparator.naturalOrder()).orElse(100);
            if (most < fewest) {
                fewest = most;
                best = d;
            }
        }
        return best;
    }

    public boolean should(int hearts) {
        if (!in(hearts, 0, (1 << w.feathers.size()) - 1)) return false;
        w.should = hearts;
        return true;
    }

    public int featherForAll(boolean many) {
        int best = 0;
        int fewest = 100;
        int[] burdens = new int[w.feathers.size()];
        for (int h = 0; h < burdens.length; h++) burdens[h] = burdenBy(w.ruling, h);
        for (int f = 0; f < 1000; f++) {
            int wrong = 0;
            for (int h = 0; h < burdens.length; h++) {
                boolean heavy = burdens[h] > f;
                boolean pass = (w.should >> h & 1) == 1;
                if (heavy == pass) wrong++;
            }
            if (wrong < fewest) {
                fewest = wrong;
                best = f;
            }
        }
        return many ? fewest : best;
    }

    // ---- scales that err

    /** By going through the weighings one by one: how many ways out of ten to the n have each number of right ones. */
    private static BigInteger right(int e, int n) {
        BigInteger[] ways = new BigInteger[n + 2];
        Arrays.fill(ways, BigInteger.ZERO);
        ways[0] = BigInteger.ONE;
        for (int i = 0; i < n; i++) {
            for (int k = n; k >= 0; k--) {
                BigInteger one = k == 0 ? BigInteger.ZERO : ways[k - 1].multiply(BigInteger.valueOf(10 - e));
                ways[k] = ways[k].multiply(BigInteger.valueOf(e)).add(one);
            }
        }
        BigInteger sum = BigInteger.ZERO;
        for (int k = 0; k <= n; k++) if (k > n - k) sum = sum.add(ways[k]);
        return sum;
    }

    public long odds(int e, int n, boolean low) {
        if (!in(e, 0, 10) || !in(n, 1, 15) || n % 2 == 0) return NONE;
        BigInteger upper = right(e, n);
        BigInteger lower = BigInteger.TEN.pow(n);
        return (low ? lower : upper).divide(upper.gcd(lower)).longValueExact();
    }

    public int often(int e, int q) {
        if (!in(e, 0, 10) || !in(q, 1, 100)) return NONE;
        for (int n : new int[] {1, 3, 5, 7, 9, 11, 13, 15}) {
            if (right(e, n).multiply(BigInteger.valueOf(100)).compareTo(BigInteger.TEN.pow(n).multiply(BigInteger.valueOf(q))) >= 0) return n;
        }
        return NONE;
    }

    // ---- the image

    public int image() {
        kept = w.copy();
        return w.now.ill;
    }

    public int back() {
        w = kept.copy();
        return w.now.ill;
    }

    public int about(int what) {
        return switch (what) {
            case 0 -> w.feathers.size();
            case 1 -> w.deeds.size();
            case 2 -> w.judges.size();
            case 3 -> w.stick;
            case 4 -> w.now.ill;
            case 5 -> w.now.x;
            case 6 -> w.texts.size();
            case 7 -> w.ruling;
            case 8 -> w.steps.size();
            case 9 -> w.known.size();
            case 10 -> w.should;
            case 11 -> tape.size();
            default -> -2;
        };
    }
}
