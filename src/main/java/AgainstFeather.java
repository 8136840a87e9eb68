import java.util.Arrays;

/** Hearts that are laid in a scale deed by deed, against a feather. The document tells what each call answers. */
public final class AgainstFeather {
    public static final int NONE = -1;

    private static final int NOT_SUCH = -100000;
    private static final int REFUSED = -2;
    private static final int NO_LAW = -100;

    private static final int MOST_HEARTS = 6;
    private static final int MOST_DEEDS = 24;
    private static final int MOST_JUDGES = 8;
    private static final int MOST_TEXTS = 4;
    private static final int MOST_KNOWN = 8;
    private static final int MOST_FEATHER = 999;
    private static final int MOST_KIND = 9;
    private static final int MOST_SIZE = 99;
    private static final int MOST_STICK = 99;
    private static final int MOST_LENT = 99;
    private static final int ALL_KINDS = 1023;
    private static final int ALL_MARKS = 7;
    private static final int SEEN_MARK = 1;
    private static final int REPAID_MARK = 2;
    private static final int FEAR_MARK = 4;

    private static final int HEAVY = 0;
    private static final int PASSES = 1;
    private static final int UP_HIGH = 2;

    private static final int TAPE_BYTES = 300;
    private static final int FED_BYTES = 20;
    private static final int MOST_SEED = 9999;
    private static final int MOST_OF_DAY = 20;
    private static final int MOST_WEIGHINGS = 15;

    private final Told told = new Told();
    private final Moment moment = new Moment();
    private final Trail trail = new Trail();
    private final Told imageTold = new Told();
    private final Moment imageMoment = new Moment();
    private final Trail imageTrail = new Trail();
    private final Laws laws = new Laws(told);
    private final Scale pans = new Scale(told, moment, laws);
    private final Trials trials = new Trials(told, moment, laws);
    private final Loans loans = new Loans(told, laws);
    private final Fits fits = new Fits(told, laws);
    private final byte[] tape = new byte[TAPE_BYTES];
    private final Reader reader = new Reader(tape);
    private int tapeLength = 0;
    private int latestFault = NONE;
    private int latestPlace = NONE;
    private final int[] burdens = new int[MOST_HEARTS];

    public AgainstFeather() {
    }

    public int heart(int feather) {
        if (!isUpTo(feather, MOST_FEATHER) || told.hearts >= MOST_HEARTS) {
            return NONE;
        }
        told.feather[told.hearts] = feather;
        told.hearts++;
        return told.hearts - 1;
    }

    public int deed(int heart, int kind, int size, int marks, int bid) {
        if (!told.isHeart(heart) || !isUpTo(kind, MOST_KIND) || !isUpTo(size, MOST_SIZE)) {
            return NONE;
        }
        if (!isUpTo(marks, ALL_MARKS) || (bid != NONE && !told.areUnlike(heart, bid))) {
            return NONE;
        }
        return told.addDeed(heart, kind, size, marks, bid);
    }

    public boolean witness(int deed, int hearts) {
        if (!told.isDeed(deed) || !isSetOf(hearts, told.hearts)) {
            return false;
        }
        told.witnesses[deed] = hearts;
        return true;
    }

    public int judge(int kinds) {
        if (kinds < 1 || kinds > ALL_KINDS || told.judges >= MOST_JUDGES) {
            return NONE;
        }
        told.asked[told.judges] = kinds;
        told.judges++;
        return told.judges - 1;
    }

    public boolean stick(int grains) {
        if (!isUpTo(grains, MOST_STICK)) {
            return false;
        }
        told.stick = grains;
        return true;
    }

    public boolean bond(int from, int to, int most) {
        if (!told.areUnlike(from, to) || !isUpTo(most, MOST_LENT)) {
            return false;
        }
        told.bond[from * MOST_HEARTS + to] = most;
        return true;
    }

    public int feed(int a, int b, int c, int d, int e) {
        if (tapeLength + FED_BYTES > TAPE_BYTES) {
            return NONE;
        }
        feedFour(a);
        feedFour(b);
        feedFour(c);
        feedFour(d);
        feedFour(e);
        return tapeLength;
    }

    private void feedFour(int bytes) {
        for (int shift = 24; shift >= 0 && tapeLength < TAPE_BYTES; shift -= 8) {
            tape[tapeLength] = (byte) (bytes >> shift);
            tapeLength++;
        }
    }

    public int end(int n) {
        if (!isUpTo(n, tapeLength)) {
            return NONE;
        }
        tapeLength = n;
        return n;
    }

    public int text() {
        if (told.texts >= MOST_TEXTS) {
            return NONE;
        }
        Text read = reader.read(tapeLength);
        // the document keeps the tape only where there are 4 texts already: a faulty one is gone, too
        tapeLength = 0;
        latestFault = reader.found;
        latestPlace = reader.place;
        if (read == null) {
            return NONE;
        }
        told.text[told.texts] = read;
        told.texts++;
        return told.texts - 1;
    }

    public int fault(int what) {
        if (what == 0) {
            return latestFault;
        }
        return what == 1 ? latestPlace : NONE;
    }

    public boolean by(int text) {
        if (text != NONE && told.textAt(text) == null) {
            return false;
        }
        told.ruling = text;
        return true;
    }

    public boolean lend(int from, int to, int weight) {
        if (!told.areUnlike(from, to) || !isUpTo(weight, MOST_LENT)) {
            return false;
        }
        int cell = from * MOST_HEARTS + to;
        if (moment.lent[cell] == weight) {
            return false;
        }
        trail.keep(moment);
        moment.lent[cell] = weight;
        return true;
    }

    public int weigh(int heart) {
        if (!told.isHeart(heart)) {
            return NOT_SUCH;
        }
        trail.keep(moment);
        pans.take(heart);
        return moment.shown;
    }

    public int lay(int deed) {
        if (!pans.canPut(deed)) {
            return NOT_SUCH;
        }
        trail.keep(moment);
        pans.put(deed);
        return moment.shown;
    }

    public int answer(int judge, boolean yes) {
        if (!pans.canReply(judge)) {
            return NONE;
        }
        trail.keep(moment);
        return pans.reply(judge, yes, laws.weightyKinds(moment.heart)) ? 1 : 0;
    }

    public int judged() {
        if (moment.heart == NONE) {
            return NONE;
        }
        trail.keep(moment);
        return pans.close();
    }

    public int played(int text) {
        Text script = told.textAt(text);
        if (script == null) {
            return REFUSED;
        }
        for (int i = 0; i < script.clauses; i++) {
            if (!isDone(script, i)) {
                return i;
            }
        }
        return NONE;
    }

    private boolean isDone(Text script, int i) {
        int first = script.part(i, 1);
        int second = script.part(i, 2);
        int third = script.part(i, 3);
        switch (script.part(i, 0)) {
            case Tokens.HEART:
                return heart(first) != NONE;
            case Tokens.DEED:
                return deed(third, first, second, script.part(i, 4), NONE) != NONE;
            case Tokens.JUDGE:
                return judge(first) != NONE;
            case Tokens.LEND:
                return lend(first, second, third);
            case Tokens.WEIGH:
                return weigh(first) != NOT_SUCH;
            case Tokens.LAY:
                return lay(first) != NOT_SUCH;
            case Tokens.YES:
                return answer(first, true) != NONE;
            case Tokens.NO:
                return answer(first, false) != NONE;
            case Tokens.END:
                return judged() != NONE;
            default:
                // a law isn't played
                return true;
        }
    }

    public int day(int seed, int n) {
        if (!isUpTo(seed, MOST_SEED) || n < 1 || n > MOST_OF_DAY || told.hearts == 0) {
            return NONE;
        }
        trail.keep(moment);
        moment.x = seed * 2 + 19;
        int heavy = 0;
        for (int i = 0; i < n; i++) {
            if (pans.weighDrawn() == HEAVY) {
                heavy++;
            }
        }
        return heavy;
    }

    public int undo() {
        return trail.giveBack(moment) ? trail.steps : NONE;
    }

    public int scale(int what) {
        if (moment.heart == NONE) {
            return NOT_SUCH;
        }
        switch (what) {
            case 0:
                return moment.heart;
            case 1:
                return moment.truth;
            case 2:
                return moment.shown;
            case 3:
                return moment.lied;
            case 4:
                return moment.laid;
            case 5:
                return moment.answered;
            default:
                return NOT_SUCH;
        }
    }

    public int ofHeart(int heart, int what) {
        if (!told.isHeart(heart)) {
            return NOT_SUCH;
        }
        switch (what) {
            case 0:
                return told.feather[heart];
            case 1:
                return told.deedsOf(heart);
            case 2:
                return laws.burden(heart);
            case 3:
                return told.feather[heart] - laws.burden(heart);
            case 4:
                return moment.lentTo(heart);
            default:
                return what >= 10 && told.isHeart(what - 10) ? moment.lent[heart * MOST_HEARTS + what - 10] : NOT_SUCH;
        }
    }

    public int ofDeed(int deed, int what) {
        if (!told.isDeed(deed)) {
            return NOT_SUCH;
        }
        switch (what) {
            case 0:
                return told.doer[deed];
            case 1:
                return told.kind[deed];
            case 2:
                return told.size[deed];
            case 3:
                return told.marks[deed];
            case 4:
                return told.bidder[deed];
            case 5:
                return told.witnesses[deed];
            case 6:
                return laws.weight(told.rulingText(), deed);
            default:
                return NOT_SUCH;
        }
    }

    public int isSo(int judge, int heart) {
        if (!told.isJudge(judge) || !told.isHeart(heart)) {
            return NONE;
        }
        return (told.asked[judge] & laws.weightyKinds(heart)) != 0 ? 1 : 0;
    }

    public int book(int i, int what) {
        if (i == NONE) {
            return moment.written;
        }
        return moment.entry(i, what);
    }

    public int lightest(int heart, boolean heavy, int i) {
        if (!trials.canOrder(heart)) {
            return NOT_SUCH;
        }
        trials.searchOrders(heart, told.stick);
        if (i == NONE) {
            return heavy ? trials.greatest : trials.least;
        }
        if (i < 0 || i >= trials.count) {
            return NOT_SUCH;
        }
        return heavy ? trials.greatestOrder[i] : trials.leastOrder[i];
    }

    public int passing(int heart, int i) {
        if (!trials.canOrder(heart)) {
            return REFUSED;
        }
        trials.searchOrders(heart, told.stick);
        if (i == NONE) {
            return trials.passes ? 1 : 0;
        }
        return trials.passes && i >= 0 && i < trials.count ? trials.passingOrder[i] : REFUSED;
    }

    public int orderless(int heart) {
        if (!trials.canOrder(heart)) {
            return NONE;
        }
        trials.searchOrders(heart, told.stick);
        return trials.least == trials.greatest ? 1 : 0;
    }

    public int sticking(int heart) {
        return trials.canOrder(heart) ? trials.mostStick(heart) : NONE;
    }

    public int truly(int heart) {
        if (!told.isHeart(heart)) {
            return NONE;
        }
        return trials.soJudges(heart) ^ ((1 << told.judges) - 1);
    }

    public int lies(int heart, int y) {
        if (!told.isHeart(heart) || !isUpTo(y, MOST_JUDGES)) {
            return NONE;
        }
        return trials.fewestLies(heart, y);
    }

    public int lending(int from, int to) {
        boolean all = loans.solve();
        if (from == NONE) {
            return all ? 1 : 0;
        }
        return all && told.areUnlike(from, to) ? loans.number[from * MOST_HEARTS + to] : NONE;
    }

    public int whoCannot() {
        loans.prepare();
        return loans.lowestLacking();
    }

    public int kindness(int deeds) {
        if (deeds < 1 || !isSetOf(deeds, told.deeds)) {
            return NONE;
        }
        int best = NONE;
        for (int asked = 1; asked < 1 << told.hearts; asked++) {
            boolean fewer = best == NONE || Integer.bitCount(asked) < Integer.bitCount(best);
            if (fewer && told.allRemember(deeds, asked)) {
                best = asked;
            }
        }
        return best;
    }

    public int known(int heart, int weight) {
        if (heart == NONE) {
            told.knowns = 0;
            return 0;
        }
        if (!told.isHeart(heart) || weight < -9999 || weight > 9999 || told.knowns >= MOST_KNOWN) {
            return REFUSED;
        }
        told.knownHeart[told.knowns] = heart;
        told.knownWeight[told.knowns] = weight;
        told.knowns++;
        return told.knowns;
    }

    public int fit() {
        return fits.fittingTexts();
    }

    public int smallest(int which) {
        if (which < 0 || which >= Fits.TIMES || !fits.findSmallest()) {
            return NO_LAW;
        }
        return fits.times[which];
    }

    public int tells() {
        return fits.mostTelling();
    }

    public boolean should(int hearts) {
        if (!isSetOf(hearts, told.hearts)) {
            return false;
        }
        told.wanted = hearts;
        return true;
    }

    public int featherForAll(boolean many) {
        for (int h = 0; h < told.hearts; h++) {
            burdens[h] = laws.burden(h);
        }
        int best = 0;
        int fewest = judgedOtherwise(0);
        for (int feather = 1; feather <= MOST_FEATHER; feather++) {
            int otherwise = judgedOtherwise(feather);
            if (otherwise < fewest) {
                fewest = otherwise;
                best = feather;
            }
        }
        return many ? fewest : best;
    }

    private int judgedOtherwise(int feather) {
        int otherwise = 0;
        for (int h = 0; h < told.hearts; h++) {
            boolean wanted = (told.wanted >> h & 1) != 0;
            if (wanted != burdens[h] <= feather) {
                otherwise++;
            }
        }
        return otherwise;
    }

    public long odds(int e, int n, boolean low) {
        if (!isUpTo(e, 10) || n < 1 || n > MOST_WEIGHINGS || n % 2 == 0) {
            return NONE;
        }
        long upper = rightOnes(e, n);
        long lower = power(10, n);
        long common = commonDivisor(lower, upper);
        return common < 1 ? NONE : (low ? lower : upper) / common;
    }

    public int often(int e, int q) {
        if (!isUpTo(e, 10) || q < 1 || q > 100) {
            return NONE;
        }
        for (int n = 1; n <= MOST_WEIGHINGS; n += 2) {
            if (rightOnes(e, n) * 100 >= power(10, n) * q) {
                return n;
            }
        }
        return NONE;
    }

    public int image() {
        imageTold.copyFrom(told);
        imageMoment.copyFrom(moment);
        imageTrail.copyFrom(trail);
        return moment.ill;
    }

    public int back() {
        told.copyFrom(imageTold);
        moment.copyFrom(imageMoment);
        trail.copyFrom(imageTrail);
        return moment.ill;
    }

    public int about(int what) {
        switch (what) {
            case 0:
                return told.hearts;
            case 1:
                return told.deeds;
            case 2:
                return told.judges;
            case 3:
                return told.stick;
            case 4:
                return moment.ill;
            case 5:
                return moment.x;
            case 6:
                return told.texts;
            case 7:
                return told.ruling;
            case 8:
                return trail.steps;
            case 9:
                return told.knowns;
            case 10:
                return told.wanted;
            case 11:
                return tapeLength;
            default:
                return REFUSED;
        }
    }

    private static boolean isUpTo(int value, int most) {
        return value >= 0 && value <= most;
    }

    private static boolean isSetOf(int bits, int many) {
        return bits >= 0 && bits >> many == 0;
    }

    /** Out of 10 to the n: at most 10 to the 15, which a long holds a hundred times over. */
    private static long rightOnes(int e, int n) {
        long sum = 0;
        long ways = 1;
        for (int right = 0; right <= n; right++) {
            if (right * 2 > n) {
                sum += ways * power(10 - e, right) * power(e, n - right);
            }
            ways = ways * (n - right) / (right + 1);
        }
        return sum;
    }

    private static long power(int base, int times) {
        long product = 1;
        for (int i = 0; i < times; i++) {
            product *= base;
        }
        return product;
    }

    private static long commonDivisor(long a, long b) {
        long greater = a;
        long lesser = b;
        // each two rounds halve the greater one at least: a long is done by 200
        for (int i = 0; i < 200 && lesser != 0; i++) {
            long rest = greater % lesser;
            greater = lesser;
            lesser = rest;
        }
        return greater;
    }

    /** What an image holds but no step takes back. */
    private static final class Told {
        int hearts = 0;
        final int[] feather = new int[MOST_HEARTS];
        int deeds = 0;
        final int[] doer = new int[MOST_DEEDS];
        final int[] kind = new int[MOST_DEEDS];
        final int[] size = new int[MOST_DEEDS];
        final int[] marks = new int[MOST_DEEDS];
        final int[] bidder = new int[MOST_DEEDS];
        final int[] witnesses = new int[MOST_DEEDS];
        int judges = 0;
        final int[] asked = new int[MOST_JUDGES];
        int stick = 1;
        final int[] bond = new int[MOST_HEARTS * MOST_HEARTS];
        int texts = 0;
        final Text[] text = new Text[MOST_TEXTS];
        int ruling = NONE;
        int knowns = 0;
        final int[] knownHeart = new int[MOST_KNOWN];
        final int[] knownWeight = new int[MOST_KNOWN];
        int wanted = 0;

        boolean isHeart(int heart) {
            return heart >= 0 && heart < hearts;
        }

        boolean areUnlike(int one, int other) {
            return isHeart(one) && isHeart(other) && one != other;
        }

        boolean isDeed(int deed) {
            return deed >= 0 && deed < deeds;
        }

        boolean isJudge(int judge) {
            return judge >= 0 && judge < judges;
        }

        int addDeed(int heart, int itsKind, int itsSize, int itsMarks, int bid) {
            if (deeds >= MOST_DEEDS) {
                return NONE;
            }
            doer[deeds] = heart;
            kind[deeds] = itsKind;
            size[deeds] = itsSize;
            marks[deeds] = itsMarks;
            bidder[deeds] = bid;
            witnesses[deeds] = 0;
            deeds++;
            return deeds - 1;
        }

        int deedsOf(int heart) {
            int bits = 0;
            for (int d = 0; d < deeds; d++) {
                if (doer[d] == heart) {
                    bits |= 1 << d;
                }
            }
            return bits;
        }

        /** A heart's deeds by number, as far as the row holds them: how many. */
        int listDeeds(int heart, int[] row) {
            int many = 0;
            for (int d = 0; d < deeds && many < row.length; d++) {
                if (doer[d] == heart) {
                    row[many] = d;
                    many++;
                }
            }
            return many;
        }

        boolean allRemember(int set, int hearers) {
            for (int d = 0; d < deeds; d++) {
                int others = hearers & ~(1 << doer[d]);
                if ((set >> d & 1) != 0 && (witnesses[d] & others) == 0) {
                    return false;
                }
            }
            return true;
        }

        Text textAt(int number) {
            return number >= 0 && number < texts ? text[number] : null;
        }

        Text rulingText() {
            return textAt(ruling);
        }

        void copyFrom(Told other) {
            hearts = other.hearts;
            System.arraycopy(other.feather, 0, feather, 0, MOST_HEARTS);
            deeds = other.deeds;
            System.arraycopy(other.doer, 0, doer, 0, MOST_DEEDS);
            System.arraycopy(other.kind, 0, kind, 0, MOST_DEEDS);
            System.arraycopy(other.size, 0, size, 0, MOST_DEEDS);
            System.arraycopy(other.marks, 0, marks, 0, MOST_DEEDS);
            System.arraycopy(other.bidder, 0, bidder, 0, MOST_DEEDS);
            System.arraycopy(other.witnesses, 0, witnesses, 0, MOST_DEEDS);
            judges = other.judges;
            System.arraycopy(other.asked, 0, asked, 0, MOST_JUDGES);
            stick = other.stick;
            System.arraycopy(other.bond, 0, bond, 0, MOST_HEARTS * MOST_HEARTS);
            texts = other.texts;
            for (int t = 0; t < MOST_TEXTS; t++) {
                text[t] = other.text[t];
            }
            ruling = other.ruling;
            knowns = other.knowns;
            System.arraycopy(other.knownHeart, 0, knownHeart, 0, MOST_KNOWN);
            System.arraycopy(other.knownWeight, 0, knownWeight, 0, MOST_KNOWN);
            wanted = other.wanted;
        }
    }

    /** What a step that is taken back brings again. */
    private static final class Moment {
        static final int MOST_WRITTEN = 30;
        static final int ENTRY = 5;
        static final int PLAIN = 9;
        static final int LENT_CELLS = MOST_HEARTS * MOST_HEARTS;
        static final int PAGE_CELLS = MOST_WRITTEN * ENTRY;
        static final int CELLS = PLAIN + LENT_CELLS + PAGE_CELLS;
        static final int MOST_ILL = 9999;

        int heart = NONE;
        int truth = 0;
        int shown = 0;
        int lied = 0;
        int laid = 0;
        int answered = 0;
        int ill = 0;
        int x = 19;
        int written = 0;
        final int[] lent = new int[LENT_CELLS];
        final int[] page = new int[PAGE_CELLS];

        int lentTo(int one) {
            if (one < 0 || one >= MOST_HEARTS) {
                return 0;
            }
            int sum = 0;
            for (int other = 0; other < MOST_HEARTS; other++) {
                sum += lent[other * MOST_HEARTS + one] - lent[one * MOST_HEARTS + other];
            }
            return sum;
        }

        void writeDown(int which) {
            if (written >= MOST_WRITTEN) {
                System.arraycopy(page, ENTRY, page, 0, PAGE_CELLS - ENTRY);
                written = MOST_WRITTEN - 1;
            }
            int at = written * ENTRY;
            page[at] = heart;
            page[at + 1] = shown;
            page[at + 2] = truth;
            page[at + 3] = lied;
            page[at + 4] = which;
            written++;
        }

        int entry(int i, int what) {
            if (i < 0 || i >= written || what < 0 || what >= ENTRY) {
                return NOT_SUCH;
            }
            return page[i * ENTRY + what];
        }

        /** at: where a row of CELLS begins that lies in the cells whole. */
        void saveTo(int[] cells, int at) {
            cells[at] = heart;
            cells[at + 1] = truth;
            cells[at + 2] = shown;
            cells[at + 3] = lied;
            cells[at + 4] = laid;
            cells[at + 5] = answered;
            cells[at + 6] = ill;
            cells[at + 7] = x;
            cells[at + 8] = written;
            System.arraycopy(lent, 0, cells, at + PLAIN, LENT_CELLS);
            System.arraycopy(page, 0, cells, at + PLAIN + LENT_CELLS, PAGE_CELLS);
        }

        void loadFrom(int[] cells, int at) {
            heart = cells[at];
            truth = cells[at + 1];
            shown = cells[at + 2];
            lied = cells[at + 3];
            laid = cells[at + 4];
            answered = cells[at + 5];
            ill = cells[at + 6];
            x = cells[at + 7];
            written = cells[at + 8];
            System.arraycopy(cells, at + PLAIN, lent, 0, LENT_CELLS);
            System.arraycopy(cells, at + PLAIN + LENT_CELLS, page, 0, PAGE_CELLS);
        }

        void copyFrom(Moment other) {
            heart = other.heart;
            truth = other.truth;
            shown = other.shown;
            lied = other.lied;
            laid = other.laid;
            answered = other.answered;
            ill = other.ill;
            x = other.x;
            written = other.written;
            System.arraycopy(other.lent, 0, lent, 0, LENT_CELLS);
            System.arraycopy(other.page, 0, page, 0, PAGE_CELLS);
        }
    }

    /** The moments ahead of the latest steps, in one row that goes round, so that no step makes an object. */
    private static final class Trail {
        static final int MOST_STEPS = 30;

        int steps = 0;
        private int eldest = 0;
        private final int[] cells = new int[MOST_STEPS * Moment.CELLS];

        void keep(Moment moment) {
            if (steps >= MOST_STEPS) {
                eldest = (eldest + 1) % MOST_STEPS;
                steps = MOST_STEPS - 1;
            }
            moment.saveTo(cells, (eldest + steps) % MOST_STEPS * Moment.CELLS);
            steps++;
        }

        boolean giveBack(Moment moment) {
            if (steps <= 0) {
                return false;
            }
            steps--;
            moment.loadFrom(cells, (eldest + steps) % MOST_STEPS * Moment.CELLS);
            return true;
        }

        void copyFrom(Trail other) {
            steps = other.steps;
            eldest = other.eldest;
            System.arraycopy(other.cells, 0, cells, 0, MOST_STEPS * Moment.CELLS);
        }
    }

    /** A text without a fault; it never changes, so an image may share it. */
    private static final class Text {
        static final int MOST_CLAUSES = 24;
        static final int PARTS = 5;
        static final int LAWS = 4;

        static final int NAMED = 10000;
        static final int ADD = 20000;
        static final int SUBTRACT = 20001;
        static final int MULTIPLY = 20002;
        static final int DIVIDE = 20003;
        static final int NEGATE = 20004;
        static final int SIZE_OF = 20005;

        /** The laws' sums, each sign behind what it joins: a NUMBER, NAMED and a word, or a sign. */
        final int[] code;
        private final int[] begins;
        private final int[] ends;
        final int clauses;
        private final int[] parts;

        Text(int[] code, int[] begins, int[] ends, int clauses, int[] parts) {
            this.code = code;
            this.begins = begins;
            this.ends = ends;
            this.clauses = clauses;
            this.parts = parts;
        }

        boolean hasLaw(int law) {
            return beginOf(law) < endOf(law);
        }

        int beginOf(int law) {
            return law >= 0 && law < begins.length && begins[law] >= 0 ? begins[law] : 0;
        }

        int endOf(int law) {
            return law >= 0 && law < ends.length && ends[law] <= code.length ? ends[law] : 0;
        }

        int part(int clause, int which) {
            int at = clause * PARTS + which;
            return at >= 0 && at < parts.length ? parts[at] : 0;
        }
    }

    /** The tape, token by token. */
    private static final class Tokens {
        static final int OVER = 0;
        static final int WORD = 1;
        static final int NUMBER = 2;
        static final int SIGN = 3;

        static final int WEIGHT = 0;
        static final int STICKS = 1;
        static final int LIE = 2;
        static final int UP = 3;
        static final int HEART = 4;
        static final int DEED = 5;
        static final int JUDGE = 6;
        static final int LEND = 7;
        static final int WEIGH = 8;
        static final int LAY = 9;
        static final int YES = 10;
        static final int NO = 11;
        static final int END = 12;
        static final int OF = 13;
        static final int TO = 14;
        static final int BY = 15;
        static final int FEATHER = 16;
        static final int KIND = 17;
        static final int SIZE = 18;
        static final int SEEN = 19;
        static final int REPAID = 20;
        static final int FEAR = 21;
        static final int BID = 22;
        static final int SHOWN = 23;
        static final int LAID = 24;
        static final int LIES = 25;
        static final int KINDS = 26;
        static final int HIDDEN = 27;
        static final int DEEDS = 28;
        static final int WORDS = 29;

        /** One row of eight signs a word, so that a word is found without making a text of it. */
        private static final int SPELLED = 8;
        private static final String SPELLING = "weight  sticks  lie     up      heart   deed    judge   lend    weigh   lay     yes     no      end     of      to      by      feather kind    size    seen    repaid  fear    bid     shown   laid    lies    kinds   hidden  deeds   ";

        static final int MOST_NUMBER = 9999;

        private final byte[] bytes;
        private int length = 0;
        private int next = 0;
        private int many = 0;
        private final int[] sorts = new int[TAPE_BYTES];
        private final int[] starts = new int[TAPE_BYTES];
        private final int[] values = new int[TAPE_BYTES];
        private int at = 0;
        int sort = OVER;
        int start = 0;
        /** A word's number (NONE: no word of the language), a NUMBER's value, a sign's byte. */
        int value = 0;

        Tokens(byte[] bytes) {
            this.bytes = bytes;
        }

        void begin(int howLong) {
            length = Math.max(0, Math.min(howLong, bytes.length));
            next = 0;
            many = 0;
            for (int i = 0; i < TAPE_BYTES && next < length; i++) {
                cutOne(byteAt(next));
            }
            at = NONE;
            advance();
        }

        void advance() {
            at++;
            boolean over = at < 0 || at >= many || at >= TAPE_BYTES;
            sort = over ? OVER : sorts[at];
            start = over ? length : starts[at];
            value = over ? 0 : values[at];
        }

        private void cutOne(int first) {
            if (isBlank(first)) {
                next++;
            } else if (isLetter(first)) {
                cutWord();
            } else if (isDigit(first)) {
                cutNumber();
            } else {
                // <= >= < > = # stand nowhere: like a byte that is no token they have fault 1 at their first byte
                keepToken(SIGN, next, first);
                next++;
            }
        }

        private void cutWord() {
            int from = next;
            for (int i = 0; i < length && isLetter(byteAt(next)); i++) {
                next++;
            }
            int found = NONE;
            for (int word = 0; word < WORDS; word++) {
                if (isSpelled(word, from)) {
                    found = word;
                }
            }
            keepToken(WORD, from, found);
        }

        private boolean isSpelled(int word, int from) {
            if (next - from >= SPELLED) {
                return false;
            }
            for (int i = 0; i < SPELLED; i++) {
                int sign = word * SPELLED + i;
                int letter = from + i < next ? byteAt(from + i) : ' ';
                if (sign < 0 || sign >= SPELLING.length() || SPELLING.charAt(sign) != letter) {
                    return false;
                }
            }
            return true;
        }

        private void cutNumber() {
            int from = next;
            int number = 0;
            for (int i = 0; i < length && isDigit(byteAt(next)); i++) {
                // one above the most stands for all that are above it: no digits are too many
                number = Math.min(MOST_NUMBER + 1, number * 10 + byteAt(next) - '0');
                next++;
            }
            keepToken(NUMBER, from, number);
        }

        private void keepToken(int itsSort, int itsStart, int itsValue) {
            if (many < TAPE_BYTES) {
                sorts[many] = itsSort;
                starts[many] = itsStart;
                values[many] = itsValue;
                many++;
            }
        }

        /** NONE behind the last one. */
        private int byteAt(int place) {
            return place >= 0 && place < length && place < bytes.length ? bytes[place] & 255 : NONE;
        }

        private static boolean isBlank(int c) {
            return c == 32 || c == 10;
        }

        private static boolean isLetter(int c) {
            return (c >= 'a' && c <= 'z') || (c >= 'A' && c <= 'Z');
        }

        private static boolean isDigit(int c) {
            return c >= '0' && c <= '9';
        }
    }

    /** Makes a text of the tape, or finds its first fault. */
    private static final class Reader {
        private static final int WRONG_PLACE = 1;
        private static final int WRONG_NUMBER = 2;
        private static final int TOO_DEEP = 3;
        private static final int TWICE = 4;
        private static final int WRONG_NAME = 5;
        private static final int TOO_MANY = 6;
        private static final int MOST_OPEN = 8;

        private static final int NAMES_OF_ALL = 1 << Tokens.HEART | 1 << Tokens.FEATHER;
        private static final int MARK_WORDS = 1 << Tokens.SEEN | 1 << Tokens.REPAID | 1 << Tokens.FEAR;
        private static final int WEIGHT_NAMES = NAMES_OF_ALL | MARK_WORDS | 1 << Tokens.KIND | 1 << Tokens.SIZE | 1 << Tokens.BID;
        private static final int STICKS_NAMES = NAMES_OF_ALL | 1 << Tokens.SHOWN | 1 << Tokens.LAID;
        private static final int LIE_NAMES = NAMES_OF_ALL | 1 << Tokens.LIES | 1 << Tokens.JUDGE | 1 << Tokens.KINDS | 1 << Tokens.HIDDEN;
        private static final int UP_NAMES = NAMES_OF_ALL | 1 << Tokens.DEEDS;
        private static final int ANY_NAMES = WEIGHT_NAMES | STICKS_NAMES | LIE_NAMES | UP_NAMES;

        private final Tokens tokens;
        int found = 0;
        int place = NONE;
        private final int[] code = new int[TAPE_BYTES];
        private int used = 0;
        private final int[] begins = new int[Text.LAWS];
        private final int[] ends = new int[Text.LAWS];
        private final int[] parts = new int[Text.MOST_CLAUSES * Text.PARTS];
        private int clauses = 0;
        private int names = 0;

        Reader(byte[] tape) {
            tokens = new Tokens(tape);
        }

        /** null: it has a fault. */
        Text read(int length) {
            found = 0;
            place = NONE;
            used = 0;
            clauses = 0;
            Arrays.fill(begins, 0);
            Arrays.fill(ends, 0);
            Arrays.fill(parts, 0);
            tokens.begin(length);
            for (int i = 0; i <= Text.MOST_CLAUSES && found == 0 && tokens.sort != Tokens.OVER; i++) {
                readClause();
            }
            if (found != 0) {
                return null;
            }
            int[] itsCode = Arrays.copyOf(code, used);
            int[] itsParts = Arrays.copyOf(parts, clauses * Text.PARTS);
            return new Text(itsCode, begins.clone(), ends.clone(), clauses, itsParts);
        }

        private void readClause() {
            int word = tokens.sort == Tokens.WORD ? tokens.value : NONE;
            if (word < 0 || word > Tokens.END) {
                blame(WRONG_PLACE);
            } else if (word < Text.LAWS && begins[word] < ends[word]) {
                blame(TWICE);
            } else if (clauses >= Text.MOST_CLAUSES) {
                blame(TOO_MANY);
            } else {
                int row = clauses * Text.PARTS;
                parts[row] = word;
                clauses++;
                tokens.advance();
                if (word < Text.LAWS) {
                    names = namesOf(word);
                    begins[word] = used;
                    readSum(0);
                    ends[word] = used;
                } else {
                    readParts(word, row);
                }
                expectSign(';');
            }
        }

        /** row: where the clause's own parts begin. */
        private void readParts(int word, int row) {
            switch (word) {
                case Tokens.HEART:
                    parts[row + 1] = readNumber(MOST_FEATHER);
                    break;
                case Tokens.DEED:
                    parts[row + 1] = readNumber(MOST_KIND);
                    expectWord(Tokens.SIZE);
                    parts[row + 2] = readNumber(MOST_SIZE);
                    expectWord(Tokens.OF);
                    parts[row + 3] = readNumber(MOST_HEARTS - 1);
                    parts[row + 4] = readMarks();
                    break;
                case Tokens.JUDGE:
                    parts[row + 1] = readKinds();
                    break;
                case Tokens.LEND:
                    parts[row + 1] = readNumber(MOST_HEARTS - 1);
                    expectWord(Tokens.TO);
                    parts[row + 2] = readNumber(MOST_HEARTS - 1);
                    expectWord(Tokens.BY);
                    parts[row + 3] = readNumber(MOST_LENT);
                    break;
                case Tokens.WEIGH:
                    parts[row + 1] = readNumber(MOST_HEARTS - 1);
                    break;
                case Tokens.LAY:
                    parts[row + 1] = readNumber(MOST_DEEDS - 1);
                    break;
                case Tokens.YES:
                case Tokens.NO:
                    parts[row + 1] = readNumber(MOST_JUDGES - 1);
                    break;
                default:
                    // end has no parts
                    break;
            }
        }

        private static int namesOf(int law) {
            switch (law) {
                case Tokens.WEIGHT:
                    return WEIGHT_NAMES;
                case Tokens.STICKS:
                    return STICKS_NAMES;
                case Tokens.LIE:
                    return LIE_NAMES;
                default:
                    return UP_NAMES;
            }
        }

        private int readMarks() {
            int marks = 0;
            // the fourth word is one for the second time at the latest
            for (int i = 0; i < 4 && isSign(','); i++) {
                tokens.advance();
                marks |= readMark(marks);
            }
            return marks;
        }

        private int readMark(int already) {
            int mark = tokens.sort == Tokens.WORD ? markOf(tokens.value) : 0;
            if (mark == 0) {
                blame(WRONG_PLACE);
            } else if ((already & mark) != 0) {
                blame(TWICE);
            } else {
                tokens.advance();
            }
            return mark;
        }

        private static int markOf(int word) {
            switch (word) {
                case Tokens.SEEN:
                    return SEEN_MARK;
                case Tokens.REPAID:
                    return REPAID_MARK;
                case Tokens.FEAR:
                    return FEAR_MARK;
                default:
                    return 0;
            }
        }

        private int readKinds() {
            int kinds = 1 << readNumber(MOST_KIND);
            // the eleventh kind is one for the second time at the latest
            for (int i = 0; i < 11 && isSign(','); i++) {
                tokens.advance();
                if (tokens.sort == Tokens.NUMBER && tokens.value <= MOST_KIND && (kinds >> tokens.value & 1) != 0) {
                    blame(TWICE);
                }
                kinds |= 1 << readNumber(MOST_KIND);
            }
            return kinds;
        }

        /** open: how many of ( | and - are around it. */
        private void readSum(int open) {
            readProduct(open);
            for (int i = 0; i < TAPE_BYTES && (isSign('+') || isSign('-')); i++) {
                int sign = tokens.value == '+' ? Text.ADD : Text.SUBTRACT;
                tokens.advance();
                readProduct(open);
                putCode(sign);
            }
        }

        private void readProduct(int open) {
            readOne(open);
            for (int i = 0; i < TAPE_BYTES && (isSign('*') || isSign('/')); i++) {
                int sign = tokens.value == '*' ? Text.MULTIPLY : Text.DIVIDE;
                tokens.advance();
                readOne(open);
                putCode(sign);
            }
        }

        private void readOne(int open) {
            if (tokens.sort == Tokens.NUMBER) {
                putCode(readNumber(Tokens.MOST_NUMBER));
            } else if (tokens.sort == Tokens.WORD) {
                readName();
            } else if (!isSign('(') && !isSign('|') && !isSign('-')) {
                blame(WRONG_PLACE);
            } else if (open >= MOST_OPEN) {
                blame(TOO_DEEP);
            } else if (isSign('-')) {
                tokens.advance();
                readOne(open + 1);
                putCode(Text.NEGATE);
            } else {
                boolean isSize = isSign('|');
                tokens.advance();
                readSum(open + 1);
                expectSign(isSize ? '|' : ')');
                if (isSize) {
                    putCode(Text.SIZE_OF);
                }
            }
        }

        private void readName() {
            int word = tokens.value;
            if (word < 0 || word >= Tokens.WORDS || (ANY_NAMES >> word & 1) == 0) {
                blame(WRONG_PLACE);
            } else if ((names >> word & 1) == 0) {
                blame(WRONG_NAME);
            } else {
                putCode(Text.NAMED + word);
                tokens.advance();
            }
        }

        private int readNumber(int most) {
            int value = tokens.value;
            if (tokens.sort != Tokens.NUMBER) {
                blame(WRONG_PLACE);
            } else if (value > most) {
                blame(WRONG_NUMBER);
            } else if (found == 0) {
                tokens.advance();
                return value;
            }
            return 0;
        }

        private void expectSign(int sign) {
            if (!isSign(sign)) {
                blame(WRONG_PLACE);
            } else {
                tokens.advance();
            }
        }

        private void expectWord(int word) {
            if (tokens.sort != Tokens.WORD || tokens.value != word) {
                blame(WRONG_PLACE);
            } else if (found == 0) {
                tokens.advance();
            }
        }

        /** Never behind a fault: so a fault ends all that is being read. */
        private boolean isSign(int sign) {
            return found == 0 && tokens.sort == Tokens.SIGN && tokens.value == sign;
        }

        private void putCode(int one) {
            if (used < code.length) {
                code[used] = one;
                used++;
            }
        }

        private void blame(int fault) {
            if (found == 0) {
                found = fault;
                place = tokens.start;
            }
        }
    }

    /** What weighs how much, by a text or without one. */
    private static final class Laws {
        private static final int MOST_VALUE = 1000000;
        private static final int MOST_WEIGHT = 999;
        private static final int PLAIN_LIE = 3;
        private static final int PLAIN_UP = 50;
        /** Each of the eight that may be open leaves two values below it: 19 are in use at most. */
        private static final int STACK = 32;

        private final Told told;
        private final int[] named = new int[Tokens.WORDS];
        private final int[] stack = new int[STACK];

        Laws(Told told) {
            this.told = told;
        }

        /** law: null for none. */
        int weight(Text law, int deed) {
            if (!told.isDeed(deed)) {
                return 0;
            }
            if (law == null || !law.hasLaw(Tokens.WEIGHT)) {
                return told.size[deed];
            }
            int marks = told.marks[deed];
            nameHeart(told.doer[deed]);
            named[Tokens.KIND] = told.kind[deed];
            named[Tokens.SIZE] = told.size[deed];
            named[Tokens.SEEN] = (marks & SEEN_MARK) != 0 ? 1 : 0;
            named[Tokens.REPAID] = (marks & REPAID_MARK) != 0 ? 1 : 0;
            named[Tokens.FEAR] = (marks & FEAR_MARK) != 0 ? 1 : 0;
            named[Tokens.BID] = told.bidder[deed] != NONE ? 1 : 0;
            return between(-MOST_WEIGHT, MOST_WEIGHT, valueOf(law, Tokens.WEIGHT));
        }

        int burdenBy(Text law, int heart) {
            int sum = 0;
            for (int d = 0; d < told.deeds; d++) {
                if (told.doer[d] == heart) {
                    sum += weight(law, d);
                }
            }
            return sum;
        }

        int burden(int heart) {
            return burdenBy(told.rulingText(), heart);
        }

        /** Bits of the kinds of which the heart has a deed that weighs above 0: a judge of one of them asks what is so. */
        int weightyKinds(int heart) {
            Text law = told.rulingText();
            int kinds = 0;
            for (int d = 0; d < told.deeds; d++) {
                if (told.doer[d] == heart && weight(law, d) > 0) {
                    kinds |= 1 << told.kind[d];
                }
            }
            return kinds;
        }

        boolean hasSticks() {
            Text law = told.rulingText();
            return law != null && law.hasLaw(Tokens.STICKS);
        }

        /** plain: how much it sticks without a law. */
        int sticks(int heart, int shown, int laid, int plain) {
            Text law = told.rulingText();
            if (law == null || !law.hasLaw(Tokens.STICKS)) {
                return plain;
            }
            nameHeart(heart);
            named[Tokens.SHOWN] = shown;
            named[Tokens.LAID] = laid;
            return between(0, MOST_STICK, valueOf(law, Tokens.STICKS));
        }

        /** lied: how many lies are ahead of it. */
        int lieTo(int judge, int heart, int lied) {
            Text law = told.rulingText();
            if (law == null || !law.hasLaw(Tokens.LIE) || !told.isJudge(judge)) {
                return PLAIN_LIE;
            }
            int kinds = told.asked[judge];
            nameHeart(heart);
            named[Tokens.LIES] = lied;
            named[Tokens.JUDGE] = judge;
            named[Tokens.KINDS] = Integer.bitCount(kinds);
            named[Tokens.HIDDEN] = hiddenOf(heart, kinds);
            return between(0, MOST_WEIGHT, valueOf(law, Tokens.LIE));
        }

        private int hiddenOf(int heart, int kinds) {
            int hidden = 0;
            for (int d = 0; d < told.deeds; d++) {
                boolean isAsked = told.doer[d] == heart && (kinds >> told.kind[d] & 1) != 0;
                if (isAsked && (told.marks[d] & SEEN_MARK) == 0) {
                    hidden++;
                }
            }
            return hidden;
        }

        int upFor(int heart) {
            Text law = told.rulingText();
            if (law == null || !law.hasLaw(Tokens.UP)) {
                return PLAIN_UP;
            }
            nameHeart(heart);
            named[Tokens.DEEDS] = Integer.bitCount(told.deedsOf(heart));
            return between(0, MOST_WEIGHT, valueOf(law, Tokens.UP));
        }

        private void nameHeart(int heart) {
            named[Tokens.HEART] = heart;
            named[Tokens.FEATHER] = told.isHeart(heart) ? told.feather[heart] : 0;
        }

        private int valueOf(Text law, int which) {
            int top = 0;
            int end = law.endOf(which);
            for (int i = law.beginOf(which); i < end; i++) {
                int one = law.code[i];
                if (one < Text.ADD) {
                    if (top >= STACK) {
                        return 0;
                    }
                    stack[top] = one < Text.NAMED ? one : namedValue(one - Text.NAMED);
                    top++;
                } else if (one >= Text.NEGATE) {
                    if (top < 1) {
                        return 0;
                    }
                    stack[top - 1] = one == Text.NEGATE ? -stack[top - 1] : Math.abs(stack[top - 1]);
                } else {
                    if (top < 2) {
                        return 0;
                    }
                    stack[top - 2] = joined(one, stack[top - 2], stack[top - 1]);
                    top--;
                }
            }
            return top > 0 ? stack[0] : 0;
        }

        private int namedValue(int word) {
            return word >= 0 && word < named.length ? named[word] : 0;
        }

        private static int joined(int sign, int left, int right) {
            long value;
            switch (sign) {
                case Text.ADD:
                    value = (long) left + right;
                    break;
                case Text.SUBTRACT:
                    value = (long) left - right;
                    break;
                case Text.MULTIPLY:
                    value = (long) left * right;
                    break;
                default:
                    value = right == 0 ? 0 : left / right;
                    break;
            }
            if (value > MOST_VALUE) {
                return MOST_VALUE;
            }
            return value < -MOST_VALUE ? -MOST_VALUE : (int) value;
        }

        private static int between(int least, int most, int value) {
            return Math.max(least, Math.min(most, value));
        }
    }

    /** The weighing that goes on; what is done here is allowed already, and is no step of its own. */
    private static final class Scale {
        private final Told told;
        private final Moment moment;
        private final Laws laws;
        private final int[] own = new int[MOST_DEEDS];

        Scale(Told told, Moment moment, Laws laws) {
            this.told = told;
            this.moment = moment;
            this.laws = laws;
        }

        void take(int heart) {
            moment.heart = heart;
            moment.laid = 0;
            moment.answered = 0;
            moment.lied = 0;
            moment.truth = moment.lentTo(heart);
            moment.shown = 0;
            settle();
        }

        boolean canPut(int deed) {
            return moment.heart != NONE && told.isDeed(deed) && told.doer[deed] == moment.heart && (moment.laid >> deed & 1) == 0;
        }

        void put(int deed) {
            moment.laid |= 1 << deed;
            moment.truth += laws.weight(told.rulingText(), deed);
            settle();
        }

        boolean canReply(int judge) {
            return moment.heart != NONE && told.isJudge(judge) && (moment.answered >> judge & 1) == 0;
        }

        /** Whether it was a lie; kinds: those of which something is so. */
        boolean reply(int judge, boolean yes, int kinds) {
            moment.answered |= 1 << judge;
            if (yes == isTrue(judge, kinds)) {
                return false;
            }
            moment.truth += laws.lieTo(judge, moment.heart, moment.lied);
            moment.lied++;
            settle();
            return true;
        }

        private boolean isTrue(int judge, int kinds) {
            return told.isJudge(judge) && (told.asked[judge] & kinds) != 0;
        }

        int close() {
            int which = verdict();
            if (which == HEAVY) {
                moment.ill = Math.min(Moment.MOST_ILL, moment.ill + moment.shown - featherOf(moment.heart));
            }
            moment.writeDown(which);
            moment.heart = NONE;
            return which;
        }

        private int verdict() {
            int feather = featherOf(moment.heart);
            if (moment.shown > feather) {
                return HEAVY;
            }
            return moment.shown + laws.upFor(moment.heart) < feather ? UP_HIGH : PASSES;
        }

        private int featherOf(int heart) {
            return told.isHeart(heart) ? told.feather[heart] : 0;
        }

        private void settle() {
            int sticks = laws.sticks(moment.heart, moment.shown, Integer.bitCount(moment.laid), told.stick);
            if (Math.abs(moment.shown - moment.truth) > sticks) {
                moment.shown = moment.truth;
            }
        }

        /** One of a day's hearts, as X draws it: its verdict. */
        int weighDrawn() {
            int heart = told.hearts > 0 ? moment.x % told.hearts : 0;
            take(heart);
            drawAnew();
            putAround(heart);
            drawAnew();
            int kinds = laws.weightyKinds(heart);
            for (int j = 0; j < told.judges; j++) {
                boolean no = moment.x % 10 < 5;
                reply(j, !no && isTrue(j, kinds), kinds);
                drawAnew();
            }
            return close();
        }

        private void putAround(int heart) {
            int many = told.listDeeds(heart, own);
            if (many < 1) {
                return;
            }
            int first = moment.x % many;
            for (int i = first; i < many; i++) {
                put(own[i]);
            }
            for (int i = 0; i < first; i++) {
                put(own[i]);
            }
        }

        private void drawAnew() {
            moment.x = (moment.x * 223 + 109) % 30161;
        }
    }

    /** What would be, if a heart were weighed anew. */
    private static final class Trials {
        static final int MOST_ORDERED = 7;
        private static final int MOST_TO_STICK = 5;

        private final Told told;
        private final Moment moment;
        private final Laws laws;
        private int heart = 0;
        /** NONE: by the law. */
        private int stick = 0;
        int count = 0;
        private final int[] own = new int[MOST_DEEDS];
        private final int[] weights = new int[MOST_DEEDS];
        private final int[] order = new int[MOST_ORDERED];
        private boolean ended = false;
        int least = 0;
        final int[] leastOrder = new int[MOST_ORDERED];
        int greatest = 0;
        final int[] greatestOrder = new int[MOST_ORDERED];
        boolean passes = false;
        final int[] passingOrder = new int[MOST_ORDERED];
        private int so = 0;
        private int mostYes = 0;
        private int liedTo = NONE;

        Trials(Told told, Moment moment, Laws laws) {
            this.told = told;
            this.moment = moment;
            this.laws = laws;
        }

        boolean canOrder(int one) {
            return told.isHeart(one) && Integer.bitCount(told.deedsOf(one)) <= MOST_ORDERED;
        }

        private void prepare(int one, int plainStick) {
            heart = one;
            // thousands of orders may be tried: the law is looked up once
            stick = laws.hasSticks() ? NONE : plainStick;
            count = told.listDeeds(one, own);
            for (int i = 0; i < count; i++) {
                weights[i] = laws.weight(told.rulingText(), own[i]);
            }
        }

        /** one: a heart that canOrder allows; plainStick: how much the pan sticks without a law. */
        void searchOrders(int one, int plainStick) {
            prepare(one, plainStick);
            ended = false;
            passes = false;
            int lent = moment.lentTo(one);
            layNext(0, 0, lent, settled(lent, 0, 0));
        }

        /** The lowest deed comes first at each depth, so of like ends the first order is met first. */
        private void layNext(int depth, int taken, int truth, int shown) {
            if (depth >= count || depth >= MOST_ORDERED) {
                noteEnd(shown);
                return;
            }
            for (int i = 0; i < count; i++) {
                if ((taken >> i & 1) == 0) {
                    int then = truth + weights[i];
                    order[depth] = own[i];
                    layNext(depth + 1, taken | 1 << i, then, settled(then, shown, depth + 1));
                }
            }
        }

        private void noteEnd(int shown) {
            if (!ended || shown < least) {
                least = shown;
                System.arraycopy(order, 0, leastOrder, 0, MOST_ORDERED);
            }
            if (!ended || shown > greatest) {
                greatest = shown;
                System.arraycopy(order, 0, greatestOrder, 0, MOST_ORDERED);
            }
            if (!passes && isLight(shown)) {
                passes = true;
                System.arraycopy(order, 0, passingOrder, 0, MOST_ORDERED);
            }
            ended = true;
        }

        private boolean isLight(int shown) {
            return told.isHeart(heart) && shown <= told.feather[heart];
        }

        private int settled(int truth, int shown, int laid) {
            int sticks = stick == NONE ? laws.sticks(heart, shown, laid, 0) : stick;
            return Math.abs(shown - truth) > sticks ? truth : shown;
        }

        int mostStick(int one) {
            if (laws.hasSticks() || Integer.bitCount(told.deedsOf(one)) > MOST_TO_STICK) {
                return NONE;
            }
            for (int grains = 0; grains <= MOST_STICK; grains++) {
                searchOrders(one, grains);
                if (least != greatest) {
                    return grains - 1;
                }
            }
            return MOST_STICK;
        }

        int soJudges(int one) {
            int kinds = laws.weightyKinds(one);
            int judges = 0;
            for (int j = 0; j < told.judges; j++) {
                if ((told.asked[j] & kinds) != 0) {
                    judges |= 1 << j;
                }
            }
            return judges;
        }

        int fewestLies(int one, int yes) {
            prepare(one, told.stick);
            so = soJudges(one);
            mostYes = yes;
            liedTo = NONE;
            int truth = moment.lentTo(one);
            int shown = settled(truth, 0, 0);
            for (int i = 0; i < count; i++) {
                truth += weights[i];
                shown = settled(truth, shown, i + 1);
            }
            replyNext(0, truth, shown, 0);
            return liedTo;
        }

        /** Goes on with a judge to whom a yes is true first without, then with a lie. */
        private void replyNext(int judge, int truth, int shown, int lies) {
            if (judge >= told.judges || judge >= MOST_JUDGES) {
                noteLies(shown, lies);
                return;
            }
            replyNext(judge + 1, truth, shown, lies);
            if ((so >> judge & 1) != 0) {
                int then = truth + laws.lieTo(judge, heart, Integer.bitCount(lies));
                replyNext(judge + 1, then, settled(then, shown, count), lies | 1 << judge);
            }
        }

        private void noteLies(int shown, int lies) {
            if (Integer.bitCount(so & ~lies) > mostYes || !isLight(shown)) {
                return;
            }
            int more = Integer.bitCount(lies) - Integer.bitCount(liedTo);
            if (liedTo == NONE || more < 0 || (more == 0 && lies < liedTo)) {
                liedTo = lies;
            }
        }
    }

    /** Weight that those below 0 could lend to those above. */
    private static final class Loans {
        private final Told told;
        private final Laws laws;
        private int below = 0;
        private final int[] balance = new int[MOST_HEARTS];
        private final int[] most = new int[MOST_HEARTS * MOST_HEARTS];
        final int[] number = new int[MOST_HEARTS * MOST_HEARTS];

        Loans(Told told, Laws laws) {
            this.told = told;
            this.laws = laws;
        }

        void prepare() {
            below = 0;
            for (int h = 0; h < told.hearts; h++) {
                balance[h] = told.feather[h] - laws.burden(h);
                if (balance[h] < 0) {
                    below |= 1 << h;
                }
            }
            for (int i = 0; i < MOST_HEARTS * MOST_HEARTS; i++) {
                most[i] = told.bond[i];
                number[i] = 0;
            }
        }

        /** NONE: there is no such set. */
        int lowestLacking() {
            for (int set = 1; set < 1 << told.hearts; set++) {
                if ((set & ~below) == 0 && lackOf(set) > 0) {
                    return set;
                }
            }
            return NONE;
        }

        /** How much more the set lacks than all others could take of it. */
        private int lackOf(int set) {
            int lack = 0;
            for (int h = 0; h < told.hearts; h++) {
                if ((set >> h & 1) != 0) {
                    lack -= balance[h];
                } else if (balance[h] > 0) {
                    lack -= Math.min(balance[h], mostFrom(set, h));
                }
            }
            return lack;
        }

        private int mostFrom(int set, int to) {
            int sum = 0;
            for (int from = 0; from < told.hearts; from++) {
                if ((set >> from & 1) != 0) {
                    sum += most[from * MOST_HEARTS + to];
                }
            }
            return sum;
        }

        /** Whether all pass: then the numbers are there. */
        boolean solve() {
            prepare();
            if (lowestLacking() != NONE) {
                return false;
            }
            for (int from = 0; from < told.hearts; from++) {
                if ((below >> from & 1) != 0) {
                    lendFrom(from);
                }
            }
            return true;
        }

        /** The least number of a pair is what some set lacks without it: no set needs more of that pair (least cuts). */
        private void lendFrom(int from) {
            for (int to = 0; to < told.hearts; to++) {
                if ((below >> to & 1) == 0 && balance[to] > 0) {
                    int cell = from * MOST_HEARTS + to;
                    most[cell] = 0;
                    int least = greatestLack();
                    number[cell] = least;
                    balance[from] += least;
                    balance[to] -= least;
                }
            }
        }

        private int greatestLack() {
            int greatest = 0;
            for (int set = 1; set < 1 << told.hearts; set++) {
                if ((set & ~below) == 0) {
                    greatest = Math.max(greatest, lackOf(set));
                }
            }
            return greatest;
        }
    }

    /** Laws that fit what is known. */
    private static final class Fits {
        static final int TIMES = 4;
        private static final int MOST_TIMES = 3;
        private static final int CHOICES = 7;
        private static final int ALL_CHOICES = CHOICES * CHOICES * CHOICES * CHOICES;

        private final Told told;
        private final Laws laws;
        private final int[] sums = new int[MOST_KNOWN * TIMES];
        private final int[] tried = new int[TIMES];
        final int[] times = new int[TIMES];

        Fits(Told told, Laws laws) {
            this.told = told;
            this.laws = laws;
        }

        int fittingTexts() {
            int bits = 0;
            for (int t = 0; t < told.texts; t++) {
                if (fitsAll(told.textAt(t))) {
                    bits |= 1 << t;
                }
            }
            return bits;
        }

        private boolean fitsAll(Text law) {
            for (int k = 0; k < told.knowns; k++) {
                if (laws.burdenBy(law, told.knownHeart[k]) != told.knownWeight[k]) {
                    return false;
                }
            }
            return true;
        }

        /** Whether there is one: then its times are there. */
        boolean findSmallest() {
            for (int k = 0; k < told.knowns; k++) {
                sumUp(k);
            }
            int best = NONE;
            // a counts slowest and from below: so of like ones the least a, then b, c, d is met first
            for (int choice = 0; choice < ALL_CHOICES; choice++) {
                int sizes = choose(choice);
                if ((best == NONE || sizes < best) && triedFits()) {
                    best = sizes;
                    System.arraycopy(tried, 0, times, 0, TIMES);
                }
            }
            return best != NONE;
        }

        private void sumUp(int k) {
            int at = k * TIMES;
            for (int i = 0; i < TIMES; i++) {
                sums[at + i] = 0;
            }
            for (int d = 0; d < told.deeds; d++) {
                if (told.doer[d] == told.knownHeart[k]) {
                    sums[at] += told.size[d];
                    sums[at + 1] += (told.marks[d] & SEEN_MARK) != 0 ? 1 : 0;
                    sums[at + 2] += (told.marks[d] & REPAID_MARK) != 0 ? 1 : 0;
                    sums[at + 3] += (told.marks[d] & FEAR_MARK) != 0 ? 1 : 0;
                }
            }
        }

        /** The sizes of the chosen times together. */
        private int choose(int choice) {
            int rest = choice;
            int sizes = 0;
            for (int i = TIMES - 1; i >= 0; i--) {
                tried[i] = rest % CHOICES - MOST_TIMES;
                rest /= CHOICES;
                sizes += Math.abs(tried[i]);
            }
            return sizes;
        }

        private boolean triedFits() {
            for (int k = 0; k < told.knowns; k++) {
                int weight = 0;
                for (int i = 0; i < TIMES; i++) {
                    weight += tried[i] * sums[k * TIMES + i];
                }
                if (weight != told.knownWeight[k]) {
                    return false;
                }
            }
            return true;
        }

        int mostTelling() {
            int fitting = fittingTexts();
            int best = NONE;
            int fewest = MOST_TEXTS + 1;
            for (int d = 0; d < told.deeds && fitting != 0; d++) {
                int alike = mostAlike(d, fitting);
                if (alike < fewest) {
                    fewest = alike;
                    best = d;
                }
            }
            return best;
        }

        private int mostAlike(int deed, int fitting) {
            int most = 0;
            for (int t = 0; t < told.texts; t++) {
                if ((fitting >> t & 1) != 0) {
                    most = Math.max(most, howManyAlike(deed, fitting, laws.weight(told.textAt(t), deed)));
                }
            }
            return most;
        }

        private int howManyAlike(int deed, int fitting, int weight) {
            int alike = 0;
            for (int t = 0; t < told.texts; t++) {
                if ((fitting >> t & 1) != 0 && laws.weight(told.textAt(t), deed) == weight) {
                    alike++;
                }
            }
            return alike;
        }
    }
}
