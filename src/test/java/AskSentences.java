/** Promises 21 to 45: what is asked, what is known, and the image. */
final class AskSentences extends Sentences {
    static void all() {
        whatIs();
        orders();
        others();
        laws();
        errors();
        images();
    }

    private static void whatIs() {
        promise(21);
        sentence("The WEIGHING: 0 HEART, 1 TRUE, 2 SHOWN, 3 LIES, 4 DEEDS laid (bits), 5 JUDGES answered (bits).", () -> {
            AgainstFeather x = hearts(10, 30);
            add(x, 0, 1);
            add(x, 1, 5, 6);
            for (int j = 0; j < 8; j++) x.judge(2);
            x.stick(5);
            x.weigh(1);
            x.lay(2);
            x.answer(7, true);
            x.answer(0, false);
            // 6 is shown, then 9 is true
            int[] want = {1, 9, 6, 1, 4, 129};
            for (int i = 0; i < 6; i++) due("scale(" + i + ")", x.scale(i), want[i]);
        });
        sentence("-100000 for others, and without one.", () -> {
            for (int f : FAR) refused("scale(" + f + ")", NOT_SUCH, x -> x.scale(f));
            refused("scale(-1)", NOT_SUCH, x -> x.scale(-1));
            refused("scale(6)", NOT_SUCH, x -> x.scale(6));
            for (int i = 0; i < 6; i++) {
                int what = i;
                refused(() -> deeds(5, 5), "without one, " + i, NOT_SUCH, x -> x.scale(what));
                AgainstFeather y = deeds(5, 5);
                y.weigh(0);
                y.lay(0);
                y.judged();
                due("without one any more, " + i, y.scale(i), NOT_SUCH);
            }
        });

        promise(22);
        sentence("Of a HEART: 0 FEATHER, 1 DEEDS (bits), 2 BURDEN, 3 BALANCE, 4 LENT to it less what it LENT, 10 + heart: LENT to that one.", () -> {
            AgainstFeather x = hearts(1, 2, 3, 4, 5, 60);
            add(x, 5, 4, 5);
            add(x, 0, new int[21]);
            add(x, 5, 60);
            x.lend(0, 5, 9);
            x.lend(1, 5, 8);
            x.lend(5, 0, 30);
            int[] want = {60, 1 << 23 | 3, 69, -9, -13};
            for (int i = 0; i < 5; i++) due("ofHeart(5, " + i + ")", x.ofHeart(5, i), want[i]);
            due("5 to 0", x.ofHeart(5, 10), 30);
            due("5 to 1", x.ofHeart(5, 11), 0);
            due("0 to 5", x.ofHeart(0, 15), 9);
            due("1 to 5", x.ofHeart(1, 15), 8);
            due("to itself nothing", x.ofHeart(5, 15), 0);
            due("no deeds", x.ofHeart(1, 1), 0);
            due("no burden", x.ofHeart(1, 2), 0);
            due("balance", x.ofHeart(1, 3), 2);
            due("it lent", x.ofHeart(1, 4), -8);
        });
        sentence("-100000 for others.", () -> {
            for (int f : FAR) {
                refused("heart " + f, NOT_SUCH, x -> x.ofHeart(f, 0));
                refused("what " + f, NOT_SUCH, x -> x.ofHeart(0, f));
            }
            refused("heart -1", NOT_SUCH, x -> x.ofHeart(-1, 0));
            refused("heart 3 of 3", NOT_SUCH, x -> x.ofHeart(3, 0));
            for (int i : new int[] {-1, 5, 6, 7, 8, 9, 13, 15, 16}) refused("what " + i, NOT_SUCH, x -> x.ofHeart(0, i));
        });

        promise(23);
        sentence("Of a DEED: 0 HEART, 1 KIND, 2 SIZE, 3 marks, 4 BID, 5 WITNESSES, 6 its weight.", () -> {
            AgainstFeather x = hearts(1, 2, 3);
            for (int i = 0; i < 23; i++) x.deed(0, 1, 1, 0, NONE);
            x.deed(2, 9, 50, 5, 1);
            x.witness(23, 3);
            int[] want = {2, 9, 50, 5, 1, 3, 50};
            for (int i = 0; i < 7; i++) due("ofDeed(23, " + i + ")", x.ofDeed(23, i), want[i]);
            due("no bid", x.ofDeed(0, 4), NONE);
            rule(x, "weight size*-2;");
            due("by the law", x.ofDeed(23, 6), -100);
        });
        sentence("-100000 for others.", () -> {
            for (int f : FAR) {
                refused("deed " + f, NOT_SUCH, x -> x.ofDeed(f, 0));
                refused("what " + f, NOT_SUCH, x -> x.ofDeed(0, f));
            }
            refused("deed -1", NOT_SUCH, x -> x.ofDeed(-1, 0));
            refused("deed 3 of 3", NOT_SUCH, x -> x.ofDeed(3, 0));
            refused("what -1", NOT_SUCH, x -> x.ofDeed(0, -1));
            refused("what 7", NOT_SUCH, x -> x.ofDeed(0, 7));
        });

        promise(24);
        sentence("Whether a JUDGE's question is so of a HEART: 1, 0.", () -> {
            AgainstFeather x = hearts(1, 2, 3, 4, 5, 6);
            for (int j = 0; j < 8; j++) x.judge(1 << j);
            x.deed(5, 7, 1, 0, NONE);
            x.deed(5, 6, 0, 0, NONE);
            x.deed(0, 0, 1, 0, NONE);
            for (int j = 0; j < 8; j++) {
                for (int h = 0; h < 6; h++) due(j + " of " + h, x.isSo(j, h), j == 7 && h == 5 || j == 0 && h == 0 ? 1 : 0);
            }
        });
        sentence("NONE for others.", () -> {
            for (int f : FAR) {
                refused("judge " + f, NONE, x -> x.isSo(f, 0));
                refused("heart " + f, NONE, x -> x.isSo(0, f));
            }
            refused("judge -1", NONE, x -> x.isSo(-1, 0));
            refused("judge 2 of 2", NONE, x -> x.isSo(2, 0));
            refused("heart -1", NONE, x -> x.isSo(0, -1));
            refused("heart 3 of 3", NONE, x -> x.isSo(0, 3));
        });

        promise(25);
        sentence("What was written down: how many (i NONE); the i-th, from the eldest on: 0 HEART, 1 SHOWN, 2 TRUE, 3 LIES, 4 which.", () -> {
            AgainstFeather x = hearts(10, 30);
            add(x, 1, 29, 2);
            x.judge(2);
            x.stick(2);
            due("none", x.book(NONE, 0), 0);
            x.weigh(0);
            x.judged();
            x.weigh(1);
            x.lay(0);
            x.lay(1);
            x.answer(0, true);
            x.judged();
            due("two", x.book(NONE, 0), 2);
            // 29 is shown of 31, then 34
            int[][] want = {{0, 0, 0, 0, 1}, {1, 34, 34, 1, 0}};
            for (int i = 0; i < 2; i++) for (int k = 0; k < 5; k++) due(i + ", " + k, x.book(i, k), want[i][k]);
            x.weigh(1);
            x.lay(0);
            x.lay(1);
            x.judged();
            due("shown", x.book(2, 1), 29);
            due("true", x.book(2, 2), 31);
            for (int what : new int[] {-1, 5, 1000}) due("how many, whatever is asked", x.book(NONE, what), 3);
        });
        sentence("-100000 if there is none such, and for others.", () -> {
            for (int f : FAR) {
                refused("i " + f, NOT_SUCH, x -> x.book(f, 0));
                refused("what " + f, NOT_SUCH, x -> x.book(0, f));
            }
            refused("1 of 1", NOT_SUCH, x -> x.book(1, 0));
            refused("what -1", NOT_SUCH, x -> x.book(0, -1));
            refused("what 5", NOT_SUCH, x -> x.book(0, 5));
            refused(AgainstFeather::new, "0 of 0", NOT_SUCH, x -> x.book(0, 0));
            AgainstFeather full = hearts(5);
            full.day(0, 20);
            full.day(0, 20);
            due("29 of 30", full.book(29, 0), 0);
            due("30 of 30", full.book(30, 0), NOT_SUCH);
        });
    }

    private static AgainstFeather many(int deeds) {
        AgainstFeather x = hearts(5, 5, 5);
        add(x, 0, new int[deeds]);
        add(x, 1, 5);
        return x;
    }

    private static void orders() {
        promise(26);
        sentence("LIGHTEST (heavy false), HEAVIEST: the END (i NONE), the i-th DEED.", () -> {
            AgainstFeather x = deeds(9, 1, 2);
            // 0 1: 3; 1 0: 2
            due("lightest", x.lightest(0, false, NONE), 2);
            due("heaviest", x.lightest(0, true, NONE), 3);
            due("lightest, 0", x.lightest(0, false, 0), 1);
            due("lightest, 1", x.lightest(0, false, 1), 0);
            due("heaviest, 0", x.lightest(0, true, 0), 0);
            due("heaviest, 1", x.lightest(0, true, 1), 1);
            for (int i = 0; i < 7; i++) due("7 deeds, " + i, many(7).lightest(0, true, i), i);
        });
        sentence("-100000: more than 7 DEEDS, there is none such, and for others.", () -> {
            for (int f : FAR) {
                refused("heart " + f, NOT_SUCH, x -> x.lightest(f, false, NONE));
                refused("i " + f, NOT_SUCH, x -> x.lightest(0, true, f));
            }
            refused("heart -1", NOT_SUCH, x -> x.lightest(-1, false, NONE));
            refused("heart 3 of 3", NOT_SUCH, x -> x.lightest(3, false, NONE));
            refused("2 of 2", NOT_SUCH, x -> x.lightest(0, false, 2));
            refused("0 of 0", NOT_SUCH, x -> x.lightest(2, false, 0));
            refused(() -> many(7), "7 of 7", NOT_SUCH, x -> x.lightest(0, false, 7));
            refused(() -> many(8), "8 deeds", NOT_SUCH, x -> x.lightest(0, false, NONE));
            refused(() -> many(8), "8 deeds, 0", NOT_SUCH, x -> x.lightest(0, true, 0));
            refused(() -> many(23), "23 deeds", NOT_SUCH, x -> x.lightest(0, true, NONE));
            due("8 deeds of another one", many(8).lightest(1, false, NONE), 5);
        });

        promise(27);
        sentence("PASSING: the i-th DEED; i NONE: 1 if there is such an order, 0 if not.", () -> {
            AgainstFeather x = deeds(2, 1, 2);
            due("there is", x.passing(0, NONE), 1);
            due("0", x.passing(0, 0), 1);
            due("1", x.passing(0, 1), 0);
            due("there is none", deeds(1, 1, 2).passing(0, NONE), 0);
            for (int i = 0; i < 7; i++) due("7 deeds, " + i, many(7).passing(0, i), i);
            due("no deeds", hearts(5).passing(0, NONE), 1);
        });
        sentence("-2: there is none such, more than 7 DEEDS, and for others.", () -> {
            for (int f : FAR) {
                refused("heart " + f, -2, x -> x.passing(f, NONE));
                refused("i " + f, -2, x -> x.passing(1, f));
            }
            refused("heart -1", -2, x -> x.passing(-1, NONE));
            refused("heart 3 of 3", -2, x -> x.passing(3, NONE));
            refused("1 of 1", -2, x -> x.passing(1, 1));
            refused("0 of 0", -2, x -> x.passing(2, 0));
            refused("no such order", -2, x -> x.passing(0, 0));
            refused(() -> many(7), "7 of 7", -2, x -> x.passing(0, 7));
            refused(() -> many(8), "8 deeds", -2, x -> x.passing(0, NONE));
            refused(() -> many(8), "8 deeds, 0", -2, x -> x.passing(0, 0));
        });

        promise(28);
        sentence("ORDERLESS: 1, 0.", () -> {
            due("1 2 by 1", deeds(9, 1, 2).orderless(0), 0);
            due("2 2 by 1", deeds(9, 2, 2).orderless(0), 1);
            due("no deeds", hearts(9).orderless(0), 1);
            due("7 deeds", many(7).orderless(0), 1);
            AgainstFeather seven = deeds(9, 2, 2, 2, 2, 2, 2, 1);
            due("only the last one of 7 matters", seven.orderless(0), 0);
        });
        sentence("NONE: more than 7 DEEDS, and for others.", () -> {
            for (int f : FAR) refused("orderless(" + f + ")", NONE, x -> x.orderless(f));
            refused("-1", NONE, x -> x.orderless(-1));
            refused("3 of 3", NONE, x -> x.orderless(3));
            refused(() -> many(8), "8 deeds", NONE, x -> x.orderless(0));
        });

        promise(29);
        sentence("STICKING (5 DEEDS at most).", () -> {
            due("5 deeds", many(5).sticking(0), 99);
            due("5 deeds", deeds(9, 3, 3, 3, 3, 4).sticking(0), 2);
            due("6 deeds", many(6).sticking(0), NONE);
            due("7 deeds", many(7).sticking(0), NONE);
            due("8 deeds", many(8).sticking(0), NONE);
            due("6 deeds of another one", many(6).sticking(1), 99);
        });
        sentence("NONE as told, and for others.", () -> {
            for (int f : FAR) refused("sticking(" + f + ")", NONE, x -> x.sticking(f));
            refused("-1", NONE, x -> x.sticking(-1));
            refused("3 of 3", NONE, x -> x.sticking(3));
            refused(() -> rule(deeds(9, 1), "sticks 0;"), "a law of sticks", NONE, x -> x.sticking(0));
            AgainstFeather x = rule(deeds(9, 1), "sticks 0;");
            x.by(NONE);
            due("it rules no more", x.sticking(0), 99);
        });
    }

    private static void others() {
        promise(30);
        sentence("TRULY (bits).", () -> {
            AgainstFeather x = deeds(9, 1);
            due("no judges", x.truly(0), 0);
            for (int j = 0; j < 8; j++) x.judge(j % 3 == 0 ? 1 : 2);
            due("all but 0, 3, 6", x.truly(0), 182);
        });
        sentence("NONE for others.", () -> {
            for (int f : FAR) refused("truly(" + f + ")", NONE, x -> x.truly(f));
            refused("-1", NONE, x -> x.truly(-1));
            refused("3 of 3", NONE, x -> x.truly(3));
        });

        promise(31);
        sentence("LIES NEEDED (bits).", () -> {
            AgainstFeather x = deeds(50, 1);
            for (int j = 0; j < 8; j++) x.judge(j % 2 + 1);
            int[] want = {85, 21, 5, 1, 0, 0, 0, 0, 0};
            for (int y = 0; y <= 8; y++) due("y " + y, x.lies(0, y), want[y]);
            due("no judges", hearts(5).lies(0, 0), 0);
        });
        sentence("NONE: none, and for others.", () -> {
            for (int f : FAR) {
                refused("heart " + f, NONE, x -> x.lies(f, 0));
                refused("y " + f, NONE, x -> x.lies(1, f));
            }
            refused("heart -1", NONE, x -> x.lies(-1, 0));
            refused("heart 3 of 3", NONE, x -> x.lies(3, 0));
            refused("y -1", NONE, x -> x.lies(1, -1));
            refused("y 9", NONE, x -> x.lies(1, 9));
            refused(() -> deeds(4, 5), "too heavy", NONE, x -> x.lies(0, 8));
        });

        promise(32);
        sentence("ALL PASS: 1, 0 (from NONE); the number for one from another one: what from lends to (0, if it lends it nothing).", () -> {
            AgainstFeather x = hearts(0, 20, 20, 0, 0, 0);
            add(x, 0, 7);
            due("not all pass", x.lending(NONE, 0), 0);
            x.bond(0, 2, 7);
            due("all pass", x.lending(NONE, 0), 1);
            for (int to : new int[] {NONE, 5, 6, 1000, Integer.MIN_VALUE}) due("whatever to is", x.lending(NONE, to), 1);
            for (int from = 0; from < 6; from++) {
                for (int to = 0; to < 6; to++) {
                    if (from != to) due(from + " to " + to, x.lending(from, to), from == 0 && to == 2 ? 7 : 0);
                }
            }
        });
        sentence("NONE for others, and if not all pass.", () -> {
            AgainstFeather passing = hearts(0, 20, 20);
            add(passing, 0, 7);
            passing.bond(0, 1, 7);
            for (int f : FAR) {
                due("from " + f, passing.lending(f, 1), NONE);
                due("to " + f, passing.lending(0, f), NONE);
            }
            due("to NONE", passing.lending(0, NONE), NONE);
            due("from 3 of 3", passing.lending(3, 1), NONE);
            due("to 3 of 3", passing.lending(0, 3), NONE);
            due("to itself", passing.lending(1, 1), NONE);
            due("it could", passing.lending(0, 1), 7);
            passing.bond(0, 1, 6);
            for (int from = 0; from < 3; from++) for (int to = 0; to < 3; to++) due("not all pass", passing.lending(from, to), NONE);
        });

        promise(33);
        sentence("WHO CAN'T (bits).", () -> {
            AgainstFeather x = hearts(9, 9, 9, 0, 9, 0);
            add(x, 3, 5);
            add(x, 5, 5);
            due("the lowest", x.whoCannot(), 8);
            x.bond(3, 0, 5);
            due("then the next", x.whoCannot(), 32);
            x.bond(5, 0, 5);
            due("then both", x.whoCannot(), 40);
        });
        sentence("NONE: all can.", () -> {
            due("nobody is there", hearts().whoCannot(), NONE);
            due("nobody is below 0", deeds(5, 5).whoCannot(), NONE);
            AgainstFeather x = hearts(0, 5);
            add(x, 0, 5);
            x.bond(0, 1, 5);
            due("all can", x.whoCannot(), NONE);
            add(x, 0, 1);
            due("one can't", x.whoCannot(), 1);
        });

        promise(34);
        sentence("KINDNESS (bits of HEARTS).", () -> {
            AgainstFeather x = hearts(1, 2, 3, 4, 5, 6);
            add(x, 0, new int[24]);
            for (int d = 0; d < 24; d++) x.witness(d, 1 << d % 5 + 1);
            due("the first", x.kindness(1), 2);
            due("the last", x.kindness(1 << 23), 16);
            due("all", x.kindness((1 << 24) - 1), 62);
        });
        sentence("NONE: none, and for others.", () -> {
            for (int f : FAR) refused("kindness(" + f + ")", NONE, x -> x.kindness(f));
            refused("an empty set", NONE, x -> x.kindness(0));
            refused("-1", NONE, x -> x.kindness(-1));
            refused("3 of 3", NONE, x -> x.kindness(8));
            refused("3 of 3 with one that is there", NONE, x -> x.kindness(9));
            refused("nobody remembers", NONE, x -> x.kindness(4));
            due("it could be", rich().kindness(3), 4);
        });
    }

    private static void laws() {
        promise(35);
        sentence("KNOWN: how many there are (heart NONE: none any more).", () -> {
            AgainstFeather x = hearts(1, 2);
            for (int i = 1; i <= 8; i++) {
                due("known", x.known(i % 2, i % 3 == 0 ? 9999 : -9999), i);
                due("known", x.about(9), i);
            }
            due("none any more", x.known(NONE, 0), 0);
            due("known", x.about(9), 0);
            due("none any more, whatever the weight", x.known(NONE, 10000), 0);
            due("the first again", x.known(1, 5), 1);
            due("no step", x.about(8), 0);
            due("no hearts", hearts().known(NONE, 0), 0);
        });
        sentence("-2 for others, or if there are 8.", () -> {
            for (int f : FAR) refused("heart " + f, -2, x -> x.known(f, 0));
            for (int f : new int[] {Integer.MIN_VALUE, -10000, 10000, Integer.MAX_VALUE}) refused("weight " + f, -2, x -> x.known(0, f));
            refused("heart 3 of 3", -2, x -> x.known(3, 0));
            refused(() -> {
                AgainstFeather x = deeds(1, 5);
                for (int i = 0; i < 8; i++) x.known(0, 5);
                return x;
            }, "a ninth", -2, x -> x.known(0, 6));
            AgainstFeather x = hearts(1);
            for (int i = 0; i < 8; i++) x.known(0, 5);
            due("a ninth", x.known(0, 5), -2);
            due("none any more, though there are 8", x.known(NONE, 0), 0);
        });

        promise(36);
        sentence("FIT (bits).", () -> {
            AgainstFeather x = deeds(1, 5);
            due("no texts", x.fit(), 0);
            for (int i = 0; i < 4; i++) {
                read(x, "weight " + i / 3 + ";");
                due("nothing is known", x.fit(), (2 << i) - 1);
            }
            x.known(0, 0);
            due("0", x.fit(), 7);
            x.known(NONE, 0);
            x.known(0, 1);
            due("1", x.fit(), 8);
            x.known(0, 1);
            due("1 twice", x.fit(), 8);
            x.known(0, 0);
            due("1 and 0", x.fit(), 0);
        });

        promise(37);
        sentence("SMALLEST: 0 a, 1 b, 2 c, 3 d.", () -> {
            AgainstFeather x = hearts(1, 2, 3, 4);
            int[] marks = {0, 1, 2, 4};
            int[] law = {3, -3, 2, -1};
            for (int h = 0; h < 4; h++) {
                x.deed(h, 0, h == 0 ? 1 : 0, marks[h], NONE);
                x.known(h, law[h]);
            }
            for (int i = 0; i < 4; i++) due("smallest(" + i + ")", x.smallest(i), law[i]);
        });
        sentence("-100: none, and for others.", () -> {
            for (int f : FAR) refused("smallest(" + f + ")", -100, x -> x.smallest(f));
            refused("-1", -100, x -> x.smallest(-1));
            refused("4", -100, x -> x.smallest(4));
            AgainstFeather x = hearts(1);
            for (int i = 0; i < 4; i++) due("there is one", x.smallest(i), 0);
            x.known(0, 1);
            for (int i = 0; i < 4; i++) due("no deeds weigh 1", x.smallest(i), -100);
        });

        promise(38);
        sentence("TELLS.", () -> {
            AgainstFeather x = deeds(1, 0, 1, 0);
            read(x, "");
            due("one text", x.tells(), 0);
            read(x, "weight size*2;");
            due("two texts", x.tells(), 1);
            AgainstFeather last = deeds(1, new int[24]);
            read(last, "");
            due("24 alike", last.tells(), 0);
        });
        sentence("NONE: none.", () -> {
            due("nothing", new AgainstFeather().tells(), NONE);
            due("no texts", deeds(1, 5).tells(), NONE);
            AgainstFeather x = hearts(1);
            read(x, "");
            due("no deeds", x.tells(), NONE);
            add(x, 0, 5);
            due("there is one", x.tells(), 0);
            x.known(0, 4);
            due("no text fits", x.tells(), NONE);
        });

        promise(39);
        sentence("SHOULD (bits of HEARTS told): true.", () -> {
            AgainstFeather x = new AgainstFeather();
            due("none of none", x.should(0), true);
            for (int many = 1; many <= 6; many++) {
                x.heart(5);
                due("all of " + many, x.should((1 << many) - 1), true);
                due("should", x.about(10), (1 << many) - 1);
                due("the last of " + many, x.should(1 << many - 1), true);
                due("should", x.about(10), 1 << many - 1);
            }
            due("none", x.should(0), true);
            due("should", x.about(10), 0);
            due("no step", x.about(8), 0);
        });
        sentence("False for others.", () -> {
            for (int f : FAR) refused("should(" + f + ")", x -> x.should(f));
            refused("-1", x -> x.should(-1));
            refused("3 of 3", x -> x.should(8));
            refused("3 of 3 with others", x -> x.should(9));
            refused(AgainstFeather::new, "0 of 0", x -> x.should(1));
            refused(() -> hearts(1, 2, 3, 4, 5, 6), "6 of 6", x -> x.should(64));
        });

        promise(40);
        sentence("FEATHER FOR ALL (many false), how many are judged otherwise.", () -> {
            AgainstFeather x = hearts(1, 2, 3, 4, 5, 6);
            for (int h = 0; h < 6; h++) add(x, h, 10 + h);
            int[][] told = {{0, 0, 0}, {63, 15, 0}, {7, 12, 0}, {62, 15, 1}, {32, 0, 1}, {41, 10, 2}, {43, 11, 2}, {47, 13, 1}};
            for (int[] t : told) {
                x.should(t[0]);
                due("should " + t[0], x.featherForAll(false), t[1]);
                due("should " + t[0] + ", how many", x.featherForAll(true), t[2]);
            }
        });
    }

    private static void errors() {
        promise(41);
        sentence("ODDS of a SCALE: the upper (low false), the lower one (low true).", () -> {
            AgainstFeather x = new AgainstFeather();
            long[][] told = {
                // e, n; upper, lower
                {0, 1, 1, 1}, {10, 1, 0, 1}, {5, 1, 1, 2}, {5, 15, 1, 2}, {3, 1, 7, 10}, {3, 3, 98, 125}, {1, 3, 243, 250}, {9, 3, 7, 250},
                {1, 15, 31248949222251L, 31250000000000L},
            };
            for (long[] t : told) {
                due(t[0] + " of " + t[1], x.odds((int) t[0], (int) t[1], false), t[2]);
                due(t[0] + " of " + t[1] + ", lower", x.odds((int) t[0], (int) t[1], true), t[3]);
            }
            // the greatest lower one there is: 10 to the 15 by 2
            due("7 of 15, lower", x.odds(7, 15, true) > Integer.MAX_VALUE, true);
        });
        sentence("NONE for others.", () -> {
            for (int f : FAR) {
                refused("e " + f, NONE, x -> x.odds(f, 1, false));
                refused("n " + f, NONE, x -> x.odds(1, f, true));
            }
            for (int e : new int[] {-1, 11}) for (int k = 0; k < 16; k++) {
                int n = k | 1;
                boolean low = k % 2 == 1;
                refused("e " + e + ", n " + n, NONE, x -> x.odds(e, n, low));
            }
            for (int n : new int[] {-15, -3, -1, 0, 2, 4, 6, 8, 10, 12, 14, 16, 17, 19}) for (int k = 0; k < 2; k++) {
                boolean low = k == 1;
                refused("n " + n, NONE, x -> x.odds(3, n, low));
            }
        });

        promise(42);
        sentence("OFTEN.", () -> {
            AgainstFeather x = new AgainstFeather();
            due("never errs", x.often(0, 1), 1);
            due("never errs", x.often(0, 100), 1);
            due("90 are 90", x.often(1, 90), 1);
            due("91", x.often(1, 91), 3);
            due("97.2", x.often(1, 97), 3);
            due("97.2", x.often(1, 98), 5);
            // 77.1 by 13, 78.6 by 15
            due("13", x.often(4, 77), 13);
            due("15", x.often(4, 78), 15);
        });
        sentence("NONE: none, and for others.", () -> {
            AgainstFeather x = new AgainstFeather();
            due("78.6 is the most", x.often(4, 79), NONE);
            due("always errs", x.often(10, 1), NONE);
            for (int f : FAR) {
                refused("e " + f, NONE, y -> y.often(f, 1));
                refused("q " + f, NONE, y -> y.often(1, f));
            }
            refused("e -1", NONE, y -> y.often(-1, 1));
            refused("e 11", NONE, y -> y.often(11, 1));
            refused("q 0", NONE, y -> y.often(0, 0));
            refused("q -1", NONE, y -> y.often(0, -1));
            refused("q 101", NONE, y -> y.often(0, 101));
        });
    }

    private static void images() {
        promise(43);
        sentence("THE IMAGE is as all is now: ILL.", () -> {
            AgainstFeather x = deeds(3, 5);
            due("not ill", x.image(), 0);
            x.day(0, 3);
            due("ill by 6", x.image(), 6);
            x.day(0, 1);
            due("ill by 8", x.about(4), 8);
            x.back();
            due("the latest image", x.about(4), 6);
            due("nothing but the image changes", x.image(), 6);
            same("making an image", x, again());
        });

        promise(44);
        sentence("BACK to THE IMAGE (it stays): ILL.", () -> {
            AgainstFeather x = deeds(3, 5);
            x.day(0, 3);
            x.image();
            for (int i = 1; i < 5; i++) {
                x.day(i, i);
                x.heart(9);
                due("hearts", x.about(0), 2);
                due("back", x.back(), 6);
                due("hearts", x.about(0), 1);
                due("written down", x.book(NONE, 0), 3);
                due("steps", x.about(8), 1);
            }
            due("to the first one", hearts(1, 2).back(), 0);
        });

        promise(45);
        sentence("0 HEARTS, 1 DEEDS, 2 JUDGES, 3 STICK, 4 ILL, 5 X, 6 TEXTS, 7 THE TEXT (NONE), 8 STEPS that can be taken back, 9 KNOWN, 10 SHOULD (bits), 11 bytes of the tape.", () -> {
            AgainstFeather x = hearts(0, 0, 0, 0);
            add(x, 0, 1, 1, 1, 1, 1);
            add(x, 1, 5);
            add(x, 2, 5);
            add(x, 3, 5);
            x.judge(1 << 9);
            x.judge(1 << 9);
            x.stick(2);
            for (int i = 0; i < 3; i++) read(x, "weight 10;");
            due("none rules", x.about(7), NONE);
            x.by(1);
            x.day(2, 1);
            for (int i = 0; i < 6; i++) x.weigh(0);
            for (int i = 0; i < 5; i++) x.known(0, i);
            x.should(9);
            feedAll(x, "heart 1000;");
            // X 23: heart 3, with one deed of 10, and two judges who ask what isn't so
            int[] want = {4, 8, 2, 2, 10, anew(23, 4), 3, 1, 7, 5, 9, 11};
            for (int i = 0; i < 12; i++) due("about(" + i + ")", x.about(i), want[i]);
        });
        sentence("-2 for others.", () -> {
            for (int f : FAR) refused("about(" + f + ")", -2, x -> x.about(f));
            refused("-1", -2, x -> x.about(-1));
            refused("12", -2, x -> x.about(12));
        });
    }

    /** What the object of promise 43 is at last, by other calls. */
    private static AgainstFeather again() {
        AgainstFeather x = deeds(3, 5);
        x.day(0, 3);
        x.image();
        return x;
    }
}
