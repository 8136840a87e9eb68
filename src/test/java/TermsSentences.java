/** Part I of the document: what there is, and how a heart is weighed. */
final class TermsSentences extends Sentences {
    static void all() {
        whatThereIs();
        weighing();
        verdicts();
        steps();
    }

    private static void whatThereIs() {
        under("What it is");
        sentence("An object is used for at most 512 calls after it has been made", () -> {
            AgainstFeather x = hearts(5, 5);
            for (int i = 0; i < 509; i++) due("lend", x.lend(0, 1, i % 2 + 1), true);
            due("the 512th call", x.about(8), 30);
        });

        under("Terms");
        sentence("HEARTS 0 .. 5 (told one by one):", () -> {
            AgainstFeather x = new AgainstFeather();
            due("refused", x.heart(1000), NONE);
            for (int i = 0; i <= 5; i++) due("heart", x.heart(7), i);
            due("a seventh", x.heart(7), NONE);
            due("hearts", x.about(0), 6);
        });
        sentence("each has a FEATHER (0 .. 999).", () -> {
            AgainstFeather x = hearts(0, 999, 500);
            due("the least", x.ofHeart(0, 0), 0);
            due("the most", x.ofHeart(1, 0), 999);
            due("its own", x.ofHeart(2, 0), 500);
            refused("heart(-1)", NONE, y -> y.heart(-1));
            refused("heart(1000)", NONE, y -> y.heart(1000));
        });
        sentence("DEEDS 0 .. 23 (told one by one): of a HEART,", () -> {
            AgainstFeather x = hearts(1, 2);
            due("refused", x.deed(2, 0, 0, 0, NONE), NONE);
            for (int i = 0; i <= 23; i++) due("deed", x.deed(i % 2, 0, 0, 0, NONE), i);
            due("a 25th", x.deed(0, 0, 0, 0, NONE), NONE);
            due("deeds", x.about(1), 24);
            due("of heart 0", x.ofHeart(0, 1), 0x555555);
            due("of heart 1", x.ofHeart(1, 1), 0xaaaaaa);
        });
        sentence("KIND 0 .. 9,", () -> {
            AgainstFeather x = hearts(1);
            due("0", x.deed(0, 0, 1, 0, NONE), 0);
            due("9", x.deed(0, 9, 1, 0, NONE), 1);
            due("its kind", x.ofDeed(0, 1), 0);
            due("its kind", x.ofDeed(1, 1), 9);
            refused("kind -1", NONE, y -> y.deed(0, -1, 1, 0, NONE));
            refused("kind 10", NONE, y -> y.deed(0, 10, 1, 0, NONE));
        });
        sentence("SIZE 0 .. 99,", () -> {
            AgainstFeather x = hearts(1);
            due("0", x.deed(0, 1, 0, 0, NONE), 0);
            due("99", x.deed(0, 1, 99, 0, NONE), 1);
            due("its size", x.ofDeed(0, 2), 0);
            due("its size", x.ofDeed(1, 2), 99);
            refused("size -1", NONE, y -> y.deed(0, 1, -1, 0, NONE));
            refused("size 100", NONE, y -> y.deed(0, 1, 100, 0, NONE));
        });
        sentence("SEEN, REPAID, OUT OF FEAR or not,", () -> {
            AgainstFeather x = ruled("weight seen+repaid*10+fear*100;", 1);
            int[] weights = {0, 1, 10, 11, 100, 101, 110, 111};
            for (int marks = 0; marks < 8; marks++) {
                x.deed(0, 0, 0, marks, NONE);
                due("marks " + marks, x.ofDeed(marks, 6), weights[marks]);
            }
        });
        sentence("BID by another HEART or NONE;", () -> {
            AgainstFeather x = hearts(1, 2);
            due("by heart 1", x.deed(0, 0, 0, 0, 1), 0);
            due("by heart 0", x.deed(1, 0, 0, 0, 0), 1);
            due("by none", x.deed(1, 0, 0, 0, NONE), 2);
            due("bid", x.ofDeed(0, 4), 1);
            due("bid", x.ofDeed(1, 4), 0);
            due("bid", x.ofDeed(2, 4), NONE);
            refused("by itself", NONE, y -> y.deed(1, 0, 0, 0, 1));
            refused("by one that isn't told", NONE, y -> y.deed(1, 0, 0, 0, 3));
        });
        sentence("WITNESSES: HEARTS who remember it (told; at first none).", () -> {
            AgainstFeather x = hearts(1, 2);
            add(x, 0, 5, 5);
            due("at first none", x.ofDeed(0, 5), 0);
            due("told", x.witness(0, 2), true);
            due("of that deed", x.ofDeed(0, 5), 2);
            due("not of another one", x.ofDeed(1, 5), 0);
        });
        sentence("JUDGES 0 .. 7 (told one by one):", () -> {
            AgainstFeather x = new AgainstFeather();
            due("refused", x.judge(0), NONE);
            for (int i = 0; i <= 7; i++) due("judge", x.judge(1), i);
            due("a ninth", x.judge(1), NONE);
            due("judges", x.about(2), 8);
        });
        sentence("each asks about KINDS (a set of some).", () -> {
            AgainstFeather x = hearts(1);
            x.deed(0, 0, 1, 0, NONE);
            x.deed(0, 9, 1, 0, NONE);
            due("the first kind", x.judge(1), 0);
            due("the last kind", x.judge(512), 1);
            due("all kinds", x.judge(1023), 2);
            due("all but these", x.judge(510), 3);
            for (int j = 0; j < 4; j++) due("so", x.isSo(j, 0), j < 3 ? 1 : 0);
            refused("none", NONE, y -> y.judge(0));
            refused("a kind 10", NONE, y -> y.judge(1024));
        });
        sentence("STICK 0 .. 99 (at first 1).", () -> {
            AgainstFeather x = new AgainstFeather();
            due("at first", x.about(3), 1);
            due("0", x.stick(0), true);
            due("it is", x.about(3), 0);
            due("99", x.stick(99), true);
            due("it is", x.about(3), 99);
            refused("-1", y -> y.stick(-1));
            refused("100", y -> y.stick(100));
        });
        sentence("LENT: by one HEART to another one 0 .. 99 (at first 0).", () -> {
            AgainstFeather x = hearts(1, 2);
            due("at first", x.ofHeart(0, 11), 0);
            due("99", x.lend(0, 1, 99), true);
            due("it is", x.ofHeart(0, 11), 99);
            due("that way alone", x.ofHeart(1, 10), 0);
            due("0", x.lend(0, 1, 0), true);
            due("it is", x.ofHeart(0, 11), 0);
            refused("to itself", y -> y.lend(1, 1, 5));
            refused("-1", y -> y.lend(0, 1, -1));
            refused("100", y -> y.lend(0, 1, 100));
        });
        sentence("ILL 0 .. 9999 (at first 0): the beast's.", () -> {
            AgainstFeather x = ruled("weight 999;", 0);
            due("at first", x.about(4), 0);
            add(x, 0, 0, 0, 0, 0, 0, 0, 0, 0, 0, 0);
            for (int i = 0; i < 2; i++) {
                x.weigh(0);
                for (int d = 0; d < 10; d++) x.lay(d);
                x.judged();
                due("ill", x.about(4), i == 0 ? 9990 : 9999);
            }
            due("of the beast, not of a heart", x.heart(5), 1);
            due("ill", x.about(4), 9999);
        });
        sentence("The constants: `NONE = -1`: None.", () -> due("NONE", AgainstFeather.NONE, -1));
        sentence("X: at first 19.", () -> due("x", new AgainstFeather().about(5), 19));
    }

    private static void weighing() {
        sentence("WEIGHED: a HEART's WEIGHING begins: no DEED is laid, no JUDGE answered, LIES 0;", () -> {
            AgainstFeather x = deeds(10, 5);
            x.judge(4);
            x.weigh(0);
            x.lay(0);
            x.answer(0, true);
            due("laid", x.scale(4), 1);
            due("answered", x.scale(5), 1);
            due("lies", x.scale(3), 1);
            x.weigh(0);
            due("heart", x.scale(0), 0);
            due("true", x.scale(1), 0);
            due("shown", x.scale(2), 0);
            due("lies", x.scale(3), 0);
            due("laid", x.scale(4), 0);
            due("answered", x.scale(5), 0);
            due("the deed again", x.lay(0), 5);
            due("the judge again", x.answer(0, true), 1);
        });
        sentence("TRUE is what was LENT to it by all less what it LENT, SHOWN 0; IT SETTLES. LAID:", () -> {
            AgainstFeather x = hearts(1, 1, 1, 1, 1, 1);
            x.lend(0, 2, 30);
            x.lend(1, 2, 4);
            x.lend(2, 0, 3);
            due("31 are more than 1 apart", x.weigh(2), 31);
            due("true", x.scale(1), 31);
            x.stick(31);
            due("31 are not more than 31 apart from 0, whatever was shown", x.weigh(2), 0);
            due("true", x.scale(1), 31);
            due("less what it lent", x.weigh(0), 0);
            due("true", x.scale(1), -27);
            x.stick(26);
            due("27 below are more than 26 apart", x.weigh(0), -27);
            x.stick(0);
            for (int h = 0; h < 5; h++) x.lend(h, 5, 99);
            due("the most", x.weigh(5), 495);
            for (int h = 0; h < 5; h++) x.lend(h, 5, 0);
            for (int h = 0; h < 5; h++) x.lend(5, h, 99);
            due("the least", x.weigh(5), -495);
        });
        sentence("one of its DEEDS that isn't yet: TRUE is more by weight; IT SETTLES. ANSWERED:", () -> {
            AgainstFeather x = ruled("weight size-50;", 10, 10);
            add(x, 0, 99, 0, 60);
            add(x, 1, 70);
            x.weigh(0);
            due("49", x.lay(0), 49);
            due("one that is already", x.lay(0), NOT_SUCH);
            due("not one of its own", x.lay(3), NOT_SUCH);
            x.stick(49);
            due("50 less are more than 49 apart", x.lay(1), -1);
            due("true", x.scale(1), -1);
            due("10 more aren't", x.lay(2), -1);
            due("true", x.scale(1), 9);
            due("laid", x.scale(4), 7);
        });
        sentence("a JUDGE that isn't yet, yes or no.", () -> {
            AgainstFeather x = hearts(10);
            x.judge(1);
            x.judge(1);
            x.weigh(0);
            due("yes", x.answer(1, true), 1);
            due("no", x.answer(0, false), 0);
            due("yes once more", x.answer(1, true), NONE);
            due("no instead", x.answer(1, false), NONE);
            due("no once more", x.answer(0, false), NONE);
            due("answered", x.scale(5), 3);
            due("lies", x.scale(3), 1);
        });
        sentence("A yes to what isn't so is a LIE as well:", () -> {
            for (int so = 0; so < 2; so++) {
                for (int yes = 0; yes < 2; yes++) {
                    AgainstFeather x = deeds(10, so);
                    x.judge(1);
                    x.weigh(0);
                    due("so " + so + ", said " + yes, x.answer(0, yes == 1), so == yes ? 0 : 1);
                    due("lies", x.scale(3), so == yes ? 0 : 1);
                    due("true", x.scale(1), so == yes ? 0 : 3);
                }
            }
        });
        sentence("a JUDGE's question is so, if the HEART has a DEED (laid or not) of one of these KINDS that weighs above 0.", () -> {
            AgainstFeather x = ruled("weight size-5;", 10, 10);
            x.deed(0, 1, 5, 0, NONE);
            x.deed(0, 2, 6, 0, NONE);
            x.deed(0, 3, 4, 0, NONE);
            x.deed(1, 4, 9, 0, NONE);
            for (int kind = 0; kind < 5; kind++) x.judge(1 << kind);
            x.judge(1 << 1 | 1 << 2);
            int[] so = {0, 0, 1, 0, 0, 1};
            for (int j = 0; j < 6; j++) due("judge " + j, x.isSo(j, 0), so[j]);
            x.weigh(0);
            due("not laid", x.answer(2, true), 0);
            x.weigh(0);
            x.lay(1);
            due("laid", x.answer(2, true), 0);
            due("what weighs 0", x.answer(1, false), 0);
            due("what weighs less", x.answer(3, false), 0);
            due("another's", x.answer(4, false), 0);
        });
        sentence("A LIE: LIES are one more (as ahead of it for the law), TRUE is more by lie; IT SETTLES. (What", () -> {
            AgainstFeather x = ruled("lie lies*10+4;", 10);
            for (int j = 0; j < 3; j++) x.judge(1);
            x.stick(5);
            x.weigh(0);
            x.answer(0, true);
            due("none is ahead of the first", x.scale(1), 4);
            due("4 are not more than 5 apart", x.scale(2), 0);
            due("lies", x.scale(3), 1);
            x.answer(1, true);
            due("one is ahead of the second", x.scale(1), 18);
            due("18 are more", x.scale(2), 18);
            due("lies", x.scale(3), 2);
            x.answer(2, true);
            due("two are ahead of the third", x.scale(1), 42);
            due("lies", x.scale(3), 3);
        });
        sentence("(What is true changes nothing.)", () -> {
            AgainstFeather x = deeds(10, 5);
            x.judge(1);
            x.judge(2);
            x.stick(9);
            x.weigh(0);
            x.lay(0);
            x.stick(0);
            due("a true yes", x.answer(0, true), 0);
            due("a true no", x.answer(1, false), 0);
            due("true", x.scale(1), 5);
            due("it doesn't settle, either", x.scale(2), 0);
            due("lies", x.scale(3), 0);
            due("answered", x.scale(5), 3);
        });
        sentence("IT SETTLES: if SHOWN and TRUE are more than sticks apart, SHOWN is TRUE.", () -> {
            AgainstFeather x = rule(deeds(100, 55, 51, 45, 49), "weight size-50;");
            x.stick(5);
            x.weigh(0);
            due("5 above", x.lay(0), 0);
            due("6 above", x.lay(1), 6);
            due("5 below", x.lay(2), 6);
            due("6 below", x.lay(3), 0);
            x.stick(0);
            x.weigh(0);
            due("1 above by 0", x.lay(1), 1);
        });
    }

    private static void verdicts() {
        sentence("JUDGED: the WEIGHING is over:", () -> {
            AgainstFeather x = deeds(10, 5);
            x.judge(1);
            x.weigh(0);
            x.judged();
            for (int i = 0; i < 6; i++) due("scale(" + i + ")", x.scale(i), NOT_SUCH);
            due("lay", x.lay(0), NOT_SUCH);
            due("answer", x.answer(0, true), NONE);
            due("judged", x.judged(), NONE);
        });
        sentence("HEAVY (0), if SHOWN is above FEATHER: ILL is more by so much as it is above (9999 at most);", () -> {
            AgainstFeather x = hearts(10, 0);
            add(x, 0, 10);
            add(x, 0, 11);
            x.weigh(0);
            x.lay(0);
            due("10 isn't above 10", x.judged(), 1);
            due("ill", x.about(4), 0);
            x.weigh(0);
            x.lay(1);
            due("11 is above 10", x.judged(), 0);
            due("ill", x.about(4), 1);
            x.weigh(0);
            x.lay(0);
            x.lay(1);
            due("21 is above 10", x.judged(), 0);
            due("ill", x.about(4), 12);
            for (int feather = 989; feather <= 991; feather++) {
                AgainstFeather y = ruled("weight 999;", feather);
                add(y, 0, 0, 0, 0, 0, 0, 0, 0, 0, 0, 0, 0);
                y.weigh(0);
                for (int d = 0; d < 11; d++) y.lay(d);
                y.judged();
                due("10989 against " + feather, y.about(4), Math.min(9999, 10989 - feather));
            }
            AgainstFeather sticky = deeds(4, 3, 3);
            sticky.stick(9);
            sticky.weigh(0);
            sticky.lay(0);
            sticky.lay(1);
            due("what is shown counts, not what is true", sticky.judged(), 1);
        });
        sentence("UP (2), if SHOWN and up together are below FEATHER; else IT PASSES (1).", () -> {
            AgainstFeather x = hearts(50, 51, 50);
            add(x, 1, 0, 1);
            x.stick(0);
            x.weigh(0);
            due("0 and 50 aren't below 50", x.judged(), 1);
            x.weigh(1);
            due("0 and 50 are below 51", x.judged(), 2);
            x.weigh(1);
            x.lay(1);
            due("1 and 50 aren't below 51", x.judged(), 1);
            x.lend(0, 1, 1);
            x.weigh(0);
            due("-1 and 50 are below 50", x.judged(), 2);
            due("ill", x.about(4), 0);
        });
        sentence("Written down (the latest 30): HEART, SHOWN, TRUE, LIES, which.", () -> {
            AgainstFeather x = hearts(40, 40);
            x.judge(1);
            x.stick(20);
            for (int i = 0; i < 35; i++) {
                x.lend(0, 1, i + 10);
                x.weigh(1);
                if (i == 34) x.answer(0, true);
                x.judged();
                due("how many", x.book(NONE, 0), Math.min(30, i + 1));
                if (i < 30) due("the first", x.book(0, 2), 10);
                if (i == 30) due("the first is gone", x.book(0, 2), 11);
            }
            for (int i = 0; i < 29; i++) due("true", x.book(i, 2), 15 + i);
            due("shown, 20 aren't more than 20 apart", x.book(5, 1), 0);
            due("shown", x.book(6, 1), 21);
            due("passes", x.book(25, 4), 1);
            due("heavy", x.book(26, 4), 0);
            int[] latest = {1, 44, 47, 1, 0};
            for (int k = 0; k < 5; k++) due("the latest, " + k, x.book(29, k), latest[k]);
        });
    }

    private static void steps() {
        sentence("STEPS: WEIGHED, LAID, ANSWERED, JUDGED, LENT (another amount), A DAY (see V):", () -> {
            AgainstFeather x = hearts(10, 20);
            add(x, 0, 5);
            x.judge(1);
            x.stick(2);
            x.witness(0, 2);
            x.bond(0, 1, 5);
            read(x, "weight size;");
            x.by(0);
            x.known(0, 5);
            x.should(1);
            x.image();
            due("what is told is none", x.about(8), 0);
            x.weigh(0);
            due("weighed", x.about(8), 1);
            x.lay(0);
            due("laid", x.about(8), 2);
            x.answer(0, true);
            due("answered", x.about(8), 3);
            x.judged();
            due("judged", x.about(8), 4);
            x.lend(0, 1, 3);
            due("lent", x.about(8), 5);
            x.lend(0, 1, 3);
            due("not another amount", x.about(8), 5);
            x.lend(0, 1, 4);
            due("another amount", x.about(8), 6);
            x.day(1, 5);
            due("a day", x.about(8), 7);
        });
        sentence("the latest 30 can be taken back, the latest first", () -> {
            for (int steps : new int[] {29, 30, 31, 59, 60, 61, 95}) {
                AgainstFeather x = hearts(10, 20);
                for (int i = 1; i <= steps; i++) x.lend(0, 1, i);
                int most = Math.min(30, steps);
                due("of " + steps, x.about(8), most);
                for (int i = 1; i <= most; i++) {
                    due("undo " + i + " of " + steps, x.undo(), most - i);
                    due("lent then", x.ofHeart(0, 11), steps - i);
                }
                due("no more", x.undo(), NONE);
                due("lent at last", x.ofHeart(0, 11), steps - most);
            }
            AgainstFeather x = hearts(10, 20);
            for (int i = 1; i <= 40; i++) x.lend(0, 1, i);
            for (int i = 0; i < 20; i++) x.undo();
            for (int i = 50; i < 75; i++) x.lend(0, 1, i);
            due("taken back and filled again", x.about(8), 30);
            for (int i = 73; i >= 50; i--) {
                x.undo();
                due("lent then", x.ofHeart(0, 11), i);
            }
            for (int i = 20; i >= 15; i--) {
                x.undo();
                due("lent then", x.ofHeart(0, 11), i);
            }
            due("no more", x.undo(), NONE);
        });
        sentence("(the WEIGHING, LENT, ILL, what was written down, X are as ahead of it;", () -> {
            AgainstFeather x = hearts(0, 20);
            add(x, 0, 5, 7);
            x.judge(1);
            x.lend(1, 0, 4);
            x.weigh(0);
            x.lay(1);
            x.answer(0, false);
            x.stick(50);
            x.day(7, 20);
            x.weigh(1);
            x.lend(1, 0, 9);
            due("undo", x.undo(), 6);
            due("lent", x.ofHeart(1, 10), 4);
            due("the weighing", x.scale(0), 1);
            due("undo", x.undo(), 5);
            due("the weighing", x.scale(0), NOT_SUCH);
            due("written down", x.book(NONE, 0), 20);
            due("undo", x.undo(), 4);
            int[] was = {0, 14, 14, 1, 2, 1};
            for (int i = 0; i < 6; i++) due("scale(" + i + ")", x.scale(i), was[i]);
            due("ill", x.about(4), 0);
            due("written down", x.book(NONE, 0), 0);
            due("x", x.about(5), 19);
            x.stick(1);
            x.judged();
            due("ill", x.about(4), 14);
            due("undo", x.undo(), 4);
            due("ill", x.about(4), 0);
            due("the weighing", x.scale(1), 14);
            due("undo", x.undo(), 3);
            due("answered", x.scale(5), 0);
            due("lies", x.scale(3), 0);
            due("true", x.scale(1), 11);
            due("shown", x.scale(2), 11);
            due("undo", x.undo(), 2);
            due("laid", x.scale(4), 0);
            due("true", x.scale(1), 4);
            due("undo", x.undo(), 1);
            due("the weighing", x.scale(0), NOT_SUCH);
            due("undo", x.undo(), 0);
            due("lent", x.ofHeart(1, 10), 0);
            AgainstFeather ill = deeds(3, 8, 1);
            for (int i = 1; i <= 4; i++) {
                ill.weigh(0);
                ill.lay(0);
                ill.lay(1);
                ill.judged();
                due("ill", ill.about(4), 5 * i);
            }
            for (int i = 3; i >= 0; i--) {
                ill.undo();
                due("ill", ill.about(4), 5 * i);
                due("true", ill.scale(1), 9);
                due("shown", ill.scale(2), 8);
                for (int k = 0; k < 3; k++) ill.undo();
                due("ill", ill.about(4), 5 * i);
            }
            AgainstFeather full = hearts(99, 99);
            for (int i = 1; i <= 30; i++) {
                full.lend(0, 1, i);
                full.weigh(1);
                full.judged();
            }
            full.lend(0, 1, 31);
            full.weigh(1);
            full.judged();
            due("the eldest is gone", full.book(0, 2), 2);
            full.undo();
            due("and is there again", full.book(0, 2), 1);
            due("how many", full.book(NONE, 0), 30);
            due("the latest", full.book(29, 2), 30);
        });
        sentence("HEARTS told since have LENT nothing, DEEDS, JUDGES told since aren't laid, answered).", () -> {
            AgainstFeather x = hearts(10);
            x.weigh(0);
            x.heart(20);
            x.deed(0, 1, 6, 0, NONE);
            x.judge(1);
            x.lend(1, 0, 5);
            x.lend(0, 1, 7);
            x.lay(0);
            x.answer(0, false);
            for (int i = 0; i < 5; i++) x.undo();
            due("the heart stays", x.about(0), 2);
            due("the deed stays", x.about(1), 1);
            due("the judge stays", x.about(2), 1);
            due("it has lent nothing", x.ofHeart(1, 10), 0);
            due("nothing is lent to it", x.ofHeart(0, 11), 0);
            due("none", x.undo(), NONE);
            x.weigh(0);
            due("not laid", x.scale(4), 0);
            due("not answered", x.scale(5), 0);
            due("it can be laid", x.lay(0), 6);
            due("it can be answered", x.answer(0, false), 0);
            AgainstFeather y = hearts(10);
            y.weigh(0);
            y.weigh(0);
            y.deed(0, 1, 6, 0, NONE);
            y.judge(1);
            y.undo();
            due("a deed told since", y.lay(0), 6);
            due("a judge told since", y.answer(0, false), 0);
        });
    }
}
