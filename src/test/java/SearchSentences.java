import java.math.BigInteger;
import java.util.List;

/** Parts III to V of the document: what would be, laws that fit, scales that err, days and images. */
final class SearchSentences extends Sentences {
    static void all() {
        under("Terms");
        orders();
        denying();
        lending();
        kindness();
        fitting();
        feathers();
        erring();
        days();
        images();
    }

    /** The orders that are due: i NONE is looked at by the caller. */
    private static void order(String what, AgainstFeather x, int heart, boolean heavy, int... deeds) {
        for (int i = 0; i < deeds.length; i++) due(what + ", " + i, x.lightest(heart, heavy, i), deeds[i]);
    }

    private static void orders() {
        sentence("All that follows changes nothing.", () -> {
            for (String law : List.of("", "weight size-3;sticks laid;lie judge;up 1;")) {
                AgainstFeather x = rich();
                AgainstFeather twin = rich();
                for (AgainstFeather y : List.of(x, twin)) {
                    y.by(read(y, law));
                    feedAll(y, "heart 7;");
                }
                askAll(x);
                same("asking", x, twin);
            }
        });
        sentence("A HEART as it would be WEIGHED anew, as LENT now, with all its DEEDS laid in an order (7 at most) and nobody answered: END: SHOWN then.", () -> {
            AgainstFeather x = hearts(50, 50);
            add(x, 0, 3, 4);
            x.judge(1);
            x.stick(0);
            x.weigh(0);
            x.lay(1);
            x.answer(0, false);
            due("anew, with all its deeds", x.lightest(0, false, NONE), 7);
            x.lend(1, 0, 5);
            due("as lent now", x.lightest(0, false, NONE), 12);
            x.stick(5);
            // begun 5 (0 is shown); 0 1: 8, 8; 1 0: 9, 9
            due("what is shown", x.lightest(0, false, NONE), 8);
            due("what is shown", x.lightest(0, true, NONE), 9);
            x.lend(1, 0, 6);
            // begun 6 (6 is shown); 0 1: 6, 13; 1 0: 6, 13
            due("it settles as it begins", x.lightest(0, false, NONE), 13);
            due("no deeds", x.lightest(1, false, NONE), -6);
            AgainstFeather law = rule(deeds(9, 1, 3), "sticks laid+heart;");
            // 0 1: 0 (1 from 0 by 1), 4 (by 2); 1 0: 3, 3 (4 from 3 by 2)
            due("by a law of sticks", law.lightest(0, false, NONE), 3);
            due("by a law of sticks", law.lightest(0, true, NONE), 4);
            law.heart(9);
            law.lend(1, 0, 1);
            // begun: 1 from 0 by 0; 0 1: 2 from 1 by 1, 5 from 1 by 2; 1 0: 4, 5 from 4 by 2
            due("by a law of sticks, as lent now", law.lightest(0, false, NONE), 4);
            due("by a law of sticks, as lent now", law.lightest(0, true, NONE), 5);
            due("by a law of sticks, heart 1", law.lightest(1, true, NONE), 0);
            law.lend(1, 0, 2);
            due("by a law of sticks, heart 1", law.lightest(1, true, NONE), -2);
            AgainstFeather counted = rule(deeds(9, 2, 1), "sticks laid;");
            // 0 1: 2 from 0 by 1, 3 from 2 by 2; 1 0: 1 from 0 by 1, 3 from 0 by 2
            due("the deed itself is laid", counted.lightest(0, false, NONE), 2);
            due("the deed itself is laid", counted.lightest(0, true, NONE), 3);
            AgainstFeather begun = rule(deeds(9, 3), "sticks 9*laid;");
            begun.heart(9);
            begun.lend(1, 0, 2);
            // begun: 2 from 0 by 0; 5 from 2 by 9
            due("nothing is laid as it begins", begun.lightest(0, false, NONE), 2);
            AgainstFeather seven = deeds(50, 1, 1, 1, 1, 1, 1, 1);
            seven.stick(0);
            due("7", seven.lightest(0, false, NONE), 7);
            due("the last of 7", seven.lightest(0, false, 6), 6);
            add(seven, 0, 1);
            due("8", seven.lightest(0, false, NONE), NOT_SUCH);
        });
        sentence("LIGHTEST, HEAVIEST: the least, the greatest END of all orders; the first order of it (the lowest first DEED, then second, ..).", () -> {
            // sizes 3 4 5 by 5: 0 1 2: 7; 0 2 1: 8; 1 0 2: 7; 1 2 0: 9; 2 0 1: 8; 2 1 0: 9
            AgainstFeather x = hearts(99, 99);
            add(x, 1, 50);
            add(x, 0, 3);
            add(x, 1, 50);
            add(x, 0, 4, 5);
            x.stick(5);
            due("lightest", x.lightest(0, false, NONE), 7);
            order("lightest", x, 0, false, 1, 3, 4);
            due("heaviest", x.lightest(0, true, NONE), 9);
            order("heaviest", x, 0, true, 3, 4, 1);
            AgainstFeather less = rule(deeds(99, 47, 46, 45), "weight size-50;");
            less.stick(5);
            due("lightest", less.lightest(0, false, NONE), -9);
            order("lightest", less, 0, false, 1, 2, 0);
            due("heaviest", less.lightest(0, true, NONE), -7);
            order("heaviest", less, 0, true, 0, 1, 2);
            AgainstFeather alike = deeds(99, 5, 5, 5, 5);
            order("all alike", alike, 0, false, 0, 1, 2, 3);
            order("all alike", alike, 0, true, 0, 1, 2, 3);
            // by 1: only 3 2 1 0 and its like lay the size 1 last: 6 is shown of 7
            AgainstFeather last = deeds(99, 1, 2, 2, 2);
            due("lightest", last.lightest(0, false, NONE), 6);
            order("lightest", last, 0, false, 1, 2, 3, 0);
            due("heaviest", last.lightest(0, true, NONE), 7);
            order("heaviest", last, 0, true, 0, 1, 2, 3);
        });
        sentence("PASSING: the first order by which IT PASSES or goes UP; none.", () -> {
            // sizes 5 3 4 by 5: 0 1 2: 8; 0 2 1: 9; 1 0 2: 8; 1 2 0: 7; 2 0 1: 9; 2 1 0: 7
            int[] feathers = {6, 7, 8, 9, 58, 999};
            int[][] first = {null, {1, 2, 0}, {0, 1, 2}, {0, 1, 2}, {0, 1, 2}, {0, 1, 2}};
            for (int i = 0; i < feathers.length; i++) {
                AgainstFeather x = deeds(feathers[i], 5, 3, 4);
                x.stick(5);
                due("feather " + feathers[i], x.passing(0, NONE), first[i] == null ? 0 : 1);
                for (int k = 0; k < 3; k++) due("feather " + feathers[i] + ", " + k, x.passing(0, k), first[i] == null ? -2 : first[i][k]);
            }
            due("no deeds", hearts(0).passing(0, NONE), 1);
            AgainstFeather others = hearts(20, 4, 6);
            for (int h = 0; h < 3; h++) add(others, h, 5);
            int[] passes = {1, 0, 1};
            for (int h = 0; h < 3; h++) due("by its own feather, " + h, others.passing(h, NONE), passes[h]);
            for (int h = 2; h >= 0; h--) due("by its own feather, " + h, others.passing(h, NONE), passes[h]);
            due("none behind one that passes", others.passing(1, 0), -2);
        });
        sentence("ORDERLESS: whether all orders END alike.", () -> {
            AgainstFeather x = deeds(9, 1, 2);
            for (int stick = 0; stick < 5; stick++) {
                x.stick(stick);
                // by 1: 3 and 2; by 2: 3 and 3; from 3 on: 0
                due("by " + stick, x.orderless(0), stick == 1 ? 0 : 1);
            }
            due("no deeds", hearts(0).orderless(0), 1);
            due("one deed", deeds(0, 5).orderless(0), 1);
        });
        sentence("STICKING: the greatest STICK (0 .. 99) by which it is ORDERLESS still, and by each lesser one, too (without a law of sticks; NONE with one, or if by 0 it isn't).", () -> {
            AgainstFeather x = deeds(9, 1, 2);
            due("by 1 it isn't, though by 2 it is", x.sticking(0), 0);
            x.stick(50);
            due("whatever it sticks now", x.sticking(0), 0);
            due("stick stays", x.about(3), 50);
            due("3 4 5", deeds(9, 3, 4, 5).sticking(0), 2);
            due("no deeds", hearts(9).sticking(0), 99);
            due("one deed", deeds(9, 50).sticking(0), 99);
            due("99 is the greatest", rule(deeds(9, 0, 0), "weight 150;").sticking(0), 99);
            due("by 99 it isn't", rule(deeds(9, 99, 98), "weight size*51-4899;").sticking(0), 98);
            due("a law of sticks", rule(deeds(9, 5), "sticks 1;").sticking(0), NONE);
            due("another law", rule(deeds(9, 5), "lie 1;up 1;").sticking(0), 99);
            AgainstFeather lent = deeds(9, 1, 2);
            lent.heart(9);
            lent.lend(0, 1, 9);
            // -9 at first; by 1: -9 -8: -9, -6 or -9 -7: -7, -6: -7
            due("as lent now", lent.sticking(0), 0);
            lent.lend(1, 0, 6);
            // -3 at first; by 1: -3 -2: -3, 0 or -3 -1: -1, 0: -1
            due("as lent now", lent.sticking(0), 0);
        });
    }

    /** Each call that only asks. */
    private static void askAll(AgainstFeather x) {
        for (int h = -1; h < 4; h++) {
            for (int i = -1; i < 3; i++) {
                x.lightest(h, false, i);
                x.lightest(h, true, i);
                x.passing(h, i);
                x.lending(h, i);
                x.lies(h, i);
            }
            x.orderless(h);
            x.sticking(h);
            x.truly(h);
        }
        x.whoCannot();
        x.kindness(7);
        x.fit();
        x.smallest(1);
        x.tells();
        x.featherForAll(true);
        x.odds(3, 5, true);
        x.often(3, 90);
    }

    private static void denying() {
        sentence("TRULY: JUDGES (bits) that can be told no truly by a HEART.", () -> {
            AgainstFeather x = rule(hearts(10, 10), "weight size-5;");
            due("no judges", x.truly(0), 0);
            for (int j = 0; j < 8; j++) x.judge(1 << j);
            due("no deeds", x.truly(0), 255);
            x.deed(0, 0, 6, 0, NONE);
            x.deed(0, 3, 5, 0, NONE);
            x.deed(0, 4, 4, 0, NONE);
            x.deed(0, 7, 6, 0, NONE);
            x.deed(1, 1, 6, 0, NONE);
            due("all but 0 and 7", x.truly(0), 126);
            due("all but 1", x.truly(1), 253);
        });
        sentence("LIES NEEDED: the HEART WEIGHED anew, its DEEDS laid by number, then each JUDGE answered by number:", () -> {
            // 1 2 by 1: 3 is shown; 2 1 by 1: 2 is shown
            due("1 2 against 2", deeds(2, 1, 2).lies(0, 8), NONE);
            due("1 2 against 3", deeds(3, 1, 2).lies(0, 8), 0);
            due("2 1 against 2", deeds(2, 2, 1).lies(0, 8), 0);
            due("2 1 against 1", deeds(1, 2, 1).lies(0, 8), NONE);
            for (int feather = 5; feather <= 6; feather++) {
                // 1, then a lie of 1 * 1 and a lie of 2 * 2
                AgainstFeather x = rule(deeds(feather, 1), "lie (lies+1)*(judge+1);sticks 0;");
                x.judge(1);
                x.judge(1);
                due("against " + feather, x.lies(0, 0), feather == 6 ? 3 : NONE);
                x.weigh(0);
                x.answer(1, false);
                due("anew, whatever was answered", x.lies(0, 0), feather == 6 ? 3 : NONE);
                x.heart(9);
                x.lend(1, 0, 1);
                due("lent to it", x.lies(0, 0), NONE);
                x.lend(0, 1, 2);
                due("it lent", x.lies(0, 0), 3);
            }
            for (int lent = 0; lent < 3; lent++) {
                AgainstFeather x = rule(deeds(9, 3, 3), "sticks 3*laid-shown;lie 2;");
                x.judge(1);
                x.judge(1);
                x.heart(9);
                x.lend(1, 0, lent);
                // 0: 3 from 0 by 3, 6 from 0 by 6, 8 from 0 by 6: 8, 10 from 8 by 0
                // 1: 1 from 0 by 0; 4 from 1 by 2, 7 from 4 by 2, 9 from 7 by 0, 11
                // 2: 2, 5, 8, 10
                due("one lie, by a law of sticks, lent " + lent, x.lies(0, 1), lent == 2 ? NONE : 1);
                due("two lies, by a law of sticks, lent " + lent, x.lies(0, 0), NONE);
                due("no lie, by a law of sticks, lent " + lent, x.lies(0, 2), 0);
            }
            for (int feather = 1; feather <= 2; feather++) {
                AgainstFeather begun = rule(deeds(feather, 3), "sticks 9*laid;");
                begun.heart(9);
                begun.lend(1, 0, 2);
                // begun: 2 from 0 by 0; 5 from 2 by 9
                due("nothing is laid as it begins, against " + feather, begun.lies(0, 0), feather == 1 ? NONE : 0);
            }
            for (int feather = 1; feather <= 2; feather++) {
                // 2 from 0 by 1, 3 from 2 by 2
                AgainstFeather counted = rule(deeds(feather, 2, 1), "sticks laid;");
                due("the deed itself is laid, against " + feather, counted.lies(0, 0), feather == 1 ? NONE : 0);
            }
            AgainstFeather many = deeds(23, new int[24]);
            rule(many, "weight 1;sticks 0;");
            due("24 deeds against 23", many.lies(0, 0), NONE);
            AgainstFeather more = deeds(24, new int[24]);
            rule(more, "weight 1;sticks 0;");
            due("24 deeds against 24", more.lies(0, 0), 0);
        });
        sentence("the fewest LIES (noes to what is so; all others are answered truly) with which no more than y (0 .. 8) JUDGES are answered yes, and IT PASSES or goes UP then:", () -> {
            AgainstFeather x = deeds(50, 1);
            for (int j = 0; j < 8; j++) x.judge(1);
            for (int y = 0; y <= 8; y++) due("y " + y, x.lies(0, y), (1 << 8 - y) - 1);
            due("y -1", x.lies(0, -1), NONE);
            due("y 9", x.lies(0, 9), NONE);
            AgainstFeather mixed = deeds(50, 1);
            mixed.judge(2);
            mixed.judge(1);
            due("no lie to whom no is true", mixed.lies(0, 0), 2);
            due("one yes, and one true no", mixed.lies(0, 1), 0);
            for (int feather : new int[] {3, 4, 54, 55, 999}) {
                AgainstFeather y = deeds(feather, 1);
                y.judge(1);
                y.stick(0);
                due("1 and 3 against " + feather, y.lies(0, 0), feather < 4 ? NONE : 1);
            }
        });
        sentence("the set of those LIED to (bits); of like ones the lowest; none. BOND", () -> {
            int[] feathers = {5, 6, 7, 8, 9, 10};
            int[] one = {NONE, 2, 2, 2, 1, 1};
            int[] two = {NONE, NONE, NONE, NONE, NONE, 3};
            for (int i = 0; i < 6; i++) {
                // 5, and 4 more by a lie to 0, 1 more by a lie to 1
                AgainstFeather x = rule(deeds(feathers[i], 5), "lie 4-judge*3;sticks 0;");
                x.judge(1);
                x.judge(1);
                due("none against " + feathers[i], x.lies(0, 2), 0);
                due("one against " + feathers[i], x.lies(0, 1), one[i]);
                due("two against " + feathers[i], x.lies(0, 0), two[i]);
            }
            // lies of 6, 4, 3, 1: of two no more than 7 are 0 3, 1 2, 1 3, 2 3
            AgainstFeather x = rule(deeds(8, 1), "lie kinds;sticks 0;");
            for (int kinds : new int[] {63, 15, 7, 1}) x.judge(kinds);
            due("1 and 2", x.lies(0, 2), 6);
        });
    }

    /** One heart lacks so much, another one could take so much. */
    private static AgainstFeather lacking(int lacks, int takes) {
        AgainstFeather x = hearts(0, takes);
        for (int rest = lacks; rest > 0; rest -= 99) add(x, 0, Math.min(99, rest));
        return x;
    }

    /** Hearts of these balances, with these bonds of each to each. */
    private static AgainstFeather balanced(int[] balances, int[][] bonds) {
        AgainstFeather x = new AgainstFeather();
        for (int balance : balances) x.heart(Math.max(0, balance));
        for (int h = 0; h < balances.length; h++) {
            if (balances[h] < 0) add(x, h, -balances[h]);
            for (int to = 0; to < balances.length; to++) x.bond(h, to, bonds[h][to]);
        }
        return x;
    }

    /** The first numbers by going through all of them, pair by pair; null without. */
    private static int[][] firstNumbers(int[] balances, int[][] bonds) {
        int many = balances.length;
        int[][] numbers = new int[many][many];
        return tryFrom(0, balances, balances.clone(), bonds, numbers) ? numbers : null;
    }

    private static boolean tryFrom(int pair, int[] balances, int[] now, int[][] bonds, int[][] numbers) {
        int many = balances.length;
        if (pair == many * many) {
            for (int balance : now) if (balance < 0) return false;
            return true;
        }
        int from = pair / many;
        int to = pair % many;
        int most = balances[from] < 0 && balances[to] > 0 ? Math.min(bonds[from][to], now[to]) : 0;
        for (int number = 0; number <= most; number++) {
            now[from] += number;
            now[to] -= number;
            numbers[from][to] = number;
            if (tryFrom(pair + 1, balances, now, bonds, numbers)) return true;
            now[from] -= number;
            now[to] += number;
        }
        numbers[from][to] = 0;
        return false;
    }

    private static void lending() {
        sentence("BOND of two unlike HEARTS: how much the one may lend the other one (0 .. 99; told; at first 0).", () -> {
            AgainstFeather x = lacking(5, 50);
            due("at first 0", x.lending(NONE, 0), 0);
            due("the other way", x.bond(1, 0, 99), true);
            due("is another bond", x.lending(NONE, 0), 0);
            due("4", x.bond(0, 1, 4), true);
            due("4 are too few", x.lending(NONE, 0), 0);
            due("5", x.bond(0, 1, 5), true);
            due("5 suffice", x.lending(0, 1), 5);
            due("0", x.bond(0, 1, 0), true);
            due("none any more", x.lending(NONE, 0), 0);
            for (int lacks = 98; lacks <= 100; lacks++) {
                AgainstFeather y = lacking(lacks, 500);
                due("99", y.bond(0, 1, 99), true);
                due("99 for " + lacks, y.lending(0, 1), lacks < 100 ? lacks : NONE);
            }
            refused("to itself", y -> y.bond(1, 1, 5));
            refused("-1", y -> y.bond(0, 1, -1));
            refused("100", y -> y.bond(0, 1, 100));
        });
        sentence("BURDEN: a HEART's weights of all DEEDS together; BALANCE: FEATHER less BURDEN.", () -> {
            AgainstFeather x = hearts(10, 999);
            due("no deeds", x.ofHeart(0, 2), 0);
            due("no deeds", x.ofHeart(0, 3), 10);
            add(x, 0, 4, 6);
            add(x, 1, 99);
            due("4 and 6", x.ofHeart(0, 2), 10);
            due("10 less 10", x.ofHeart(0, 3), 0);
            add(x, 0, 1);
            due("10 less 11", x.ofHeart(0, 3), -1);
            rule(x, "weight size-50;");
            due("-46 and -44 and -49", x.ofHeart(0, 2), -139);
            due("balance", x.ofHeart(0, 3), 149);
            AgainstFeather most = rule(deeds(0, new int[24]), "weight 999;");
            due("24 times 999", most.ofHeart(0, 2), 23976);
            due("balance", most.ofHeart(0, 3), -23976);
        });
        sentence("ALL PASS by LENDING: numbers, for each one below 0 (by number) to each one above 0 (by number) no more than BOND, such that nobody is below 0 then:", () -> {
            for (int takes = 3; takes <= 5; takes++) {
                AgainstFeather x = hearts(0, 3, takes, 5);
                add(x, 0, 7);
                add(x, 3, 5);
                for (int to = 1; to < 4; to++) x.bond(0, to, 99);
                due("7 to 3 and " + takes, x.lending(NONE, 0), takes < 4 ? 0 : 1);
                due("to one that is just at 0", x.lending(0, 3), takes < 4 ? NONE : 0);
                due("the most that is taken", x.lending(0, 2), takes < 4 ? NONE : takes);
                due("from one that isn't below 0", x.lending(1, 2), takes < 4 ? NONE : 0);
            }
            due("nobody is below 0", lacking(0, 0).lending(NONE, 0), 1);
            due("nobody is there", hearts().lending(NONE, 0), 1);
            due("no one above 0", lacking(1, 0).lending(NONE, 0), 0);
            AgainstFeather both = hearts(0, 0);
            add(both, 0, 1);
            add(both, 1, 1);
            both.bond(0, 1, 99);
            both.bond(1, 0, 99);
            due("two below 0 can't help one another", both.lending(NONE, 0), 0);
        });
        sentence("the first such numbers (the least first one, then second, ..); none: then", () -> {
            int draw = 1;
            int passing = 0;
            for (int i = 0; i < 400; i++) {
                int[] balances = new int[4];
                int[][] bonds = new int[4][4];
                for (int h = 0; h < 4; h++) {
                    draw = anew(draw);
                    balances[h] = draw / 7 % 11 - 4;
                    for (int to = 0; to < 4; to++) {
                        draw = anew(draw);
                        bonds[h][to] = draw / 7 % 6;
                    }
                }
                int[][] first = firstNumbers(balances, bonds);
                AgainstFeather x = balanced(balances, bonds);
                String what = java.util.Arrays.toString(balances) + " by " + java.util.Arrays.deepToString(bonds);
                due(what, x.lending(NONE, 0), first == null ? 0 : 1);
                for (int from = 0; from < 4; from++) {
                    for (int to = 0; to < 4; to++) {
                        if (from != to) due(what + ", " + from + " to " + to, x.lending(from, to), first == null ? NONE : first[from][to]);
                    }
                }
                if (first != null) passing++;
            }
            due("some pass, some don't", passing > 50 && passing < 350, true);
            // who is below 0 changes by the law: 0 lends 1, then 1 lends 0
            AgainstFeather turned = hearts(10, 10);
            turned.deed(0, 0, 15, 0, NONE);
            turned.deed(1, 9, 3, 0, NONE);
            turned.bond(0, 1, 9);
            turned.bond(1, 0, 9);
            due("0 to 1", turned.lending(0, 1), 5);
            due("1 to 0", turned.lending(1, 0), 0);
            rule(turned, "weight kind+kind*size/9+5-5*kind/9;");
            due("0 to 1", turned.lending(0, 1), 0);
            due("1 to 0", turned.lending(1, 0), 2);
            turned.by(NONE);
            due("0 to 1", turned.lending(0, 1), 5);
            due("1 to 0", turned.lending(1, 0), 0);
        });
        sentence("WHO CAN'T: the lowest set (bits) of HEARTS below 0 who together lack more than all others could take of them.", () -> {
            // 0 lacks 5, 1 lacks 4, 2 lacks 3; 3 could take 7, 4 could take 2
            AgainstFeather x = hearts(0, 0, 0, 7, 2);
            add(x, 0, 5);
            add(x, 1, 4);
            add(x, 2, 3);
            due("0 alone", x.whoCannot(), 1);
            x.bond(0, 3, 5);
            due("1 alone", x.whoCannot(), 2);
            x.bond(1, 3, 2);
            x.bond(1, 4, 2);
            due("2 alone", x.whoCannot(), 4);
            x.bond(2, 3, 3);
            due("0 and 2 of 7, 8 lack", x.whoCannot(), 5);
            x.bond(0, 4, 9);
            // 0 and 1: 9 of 9; 0 and 2: 8 of 9; 1 and 2: 7 of 7; all: 12 of 9
            due("all three of 9", x.whoCannot(), 7);
            x.heart(3);
            for (int from = 0; from < 3; from++) x.bond(from, 5, 99);
            due("12 of 12: all can", x.whoCannot(), NONE);
            due("nobody is there", hearts().whoCannot(), NONE);
            AgainstFeather one = lacking(5, 4);
            one.bond(0, 1, 99);
            due("5 of 4", one.whoCannot(), 1);
            AgainstFeather last = hearts(9, 9, 9, 9, 9, 0);
            add(last, 5, 1);
            due("the last heart", last.whoCannot(), 32);
        });
        sentence("(HEARTS aren't settled here; LENT isn't asked.)", () -> {
            AgainstFeather x = lacking(5, 50);
            x.bond(0, 1, 5);
            x.stick(99);
            due("5 lack, whatever sticks", x.lending(0, 1), 5);
            x.lend(0, 1, 3);
            due("5 lack, whatever is lent", x.lending(0, 1), 5);
            x.bond(0, 1, 4);
            due("who can't", x.whoCannot(), 1);
            due("lent stays", x.ofHeart(0, 11), 3);
        });
    }

    private static void kindness() {
        sentence("KINDNESS: the fewest HEARTS to ask so that each DEED of a set (bits; one at least) is remembered by one that was asked (its own HEART isn't asked for it); of like ones the lowest set; none.", () -> {
            AgainstFeather x = hearts(1, 2, 3, 4, 5, 6);
            for (int d = 0; d < 24; d++) x.deed(d % 6, 0, 0, 0, NONE);
            due("nobody remembers", x.kindness(1), NONE);
            due("none of the set", x.kindness(0), NONE);
            x.witness(0, 1);
            due("its own heart alone", x.kindness(1), NONE);
            x.witness(0, 63);
            due("of like ones the lowest", x.kindness(1), 2);
            x.witness(1, 32 | 1);
            x.witness(2, 32 | 2);
            due("one for one", x.kindness(2), 1);
            due("one for two", x.kindness(6), 32);
            due("one for three", x.kindness(7), 32);
            x.witness(3, 16);
            x.witness(23, 16);
            due("the last deed", x.kindness(1 << 23), 16);
            due("two for four", x.kindness(15), 48);
            x.witness(22, 16);
            due("its own heart alone", x.kindness(1 << 22), NONE);
            x.witness(5, 8);
            due("three for five", x.kindness(47), 56);
            due("one that nobody remembers", x.kindness(16), NONE);
            due("all of the set must be", x.kindness(31), NONE);
            due("its own heart is asked for others", x.kindness(1 << 5 | 1 << 2 | 1 << 1), 40);
        });
    }

    private static void fitting() {
        sentence("KNOWN (8 at most; told): what all DEEDS of a HEART weigh together (-9999 .. 9999).", () -> {
            AgainstFeather x = hearts(1, 2);
            add(x, 0, new int[11]);
            read(x, "weight 909;");
            read(x, "weight -909;");
            due("9999", x.known(0, 9999), 1);
            due("it is the sum of all", x.fit(), 1);
            x.known(NONE, 0);
            due("-9999", x.known(0, -9999), 1);
            due("it is the sum of all", x.fit(), 2);
            due("no deeds weigh 0", x.known(1, 0), 2);
            due("it is so", x.fit(), 2);
            for (int i = 3; i <= 8; i++) due("known", x.known(1, 0), i);
            due("a ninth", x.known(1, 0), -2);
            refused("-10000", -2, y -> y.known(0, -10000));
            refused("10000", -2, y -> y.known(0, 10000));
        });
        sentence("FIT: TEXTS (bits) by which all that is KNOWN is so, if each ruled.", () -> {
            AgainstFeather x = hearts(1, 2);
            due("no texts", x.fit(), 0);
            add(x, 0, 4, 5);
            add(x, 1, 7);
            read(x, "up 1;");
            read(x, "weight size+heart;");
            read(x, "weight 9-size;");
            read(x, "weight size;lie 7;");
            due("nothing is known", x.fit(), 15);
            x.known(0, 9);
            due("9", x.fit(), 15);
            x.known(1, 7);
            due("9 and 7", x.fit(), 9);
            x.by(2);
            due("whichever rules", x.fit(), 9);
            x.known(1, 8);
            due("it can't be 7 and 8", x.fit(), 0);
            x.known(NONE, 0);
            x.known(1, 8);
            due("8", x.fit(), 2);
            x.known(NONE, 0);
            x.known(1, 2);
            due("2", x.fit(), 4);
        });
        sentence("SMALLEST: a weight a times SIZE and b times SEEN and c times REPAID and d times FEAR (each -3 .. 3; SEEN, REPAID, FEAR 1 or 0) by which all that is KNOWN is so:", () -> {
            int[] sizes = {1, 0, 0, 0};
            int[] marks = {0, 1, 2, 4};
            for (int which = 0; which < 4; which++) {
                for (int weight = -4; weight <= 4; weight++) {
                    AgainstFeather x = hearts(1, 2);
                    x.deed(1, 5, 77, 7, 0);
                    x.deed(0, 5, sizes[which], marks[which], NONE);
                    x.known(0, weight);
                    boolean none = Math.abs(weight) > 3;
                    for (int i = 0; i < 4; i++) due(which + " by " + weight + ", " + i, x.smallest(i), none ? -100 : i == which ? weight : 0);
                }
            }
            AgainstFeather all = hearts(1, 2);
            all.deed(0, 0, 10, 1, NONE);
            all.deed(0, 0, 5, 1, NONE);
            all.deed(1, 0, 20, 6, NONE);
            all.deed(1, 0, 0, 4, NONE);
            // 15 a + 2 b = 26: 2 and -2; 20 a + c + 2 d = 37: c + 2 d = -3: -1 and -1
            all.known(0, 26);
            all.known(1, 37);
            int[] law = {2, -2, -1, -1};
            for (int i = 0; i < 4; i++) due("all that is known, " + i, all.smallest(i), law[i]);
            all.known(0, 27);
            for (int i = 0; i < 4; i++) due("it can't be 26 and 27", all.smallest(i), -100);
        });
        sentence("with the least sizes of a, b, c, d together; of like ones the least a, then b, c, d; none. TELLS", () -> {
            int[][] told = {
                // size, marks, weight; a, b, c, d
                {2, 1, 1, 0, 1, 0, 0},
                {2, 1, 3, 1, 1, 0, 0},
                {1, 1, 2, 0, 2, 0, 0},
                {1, 1, -2, -2, 0, 0, 0},
                {0, 3, 2, 0, 0, 2, 0},
                {0, 3, -2, 0, -2, 0, 0},
                {0, 6, 2, 0, 0, 0, 2},
                {0, 6, -2, 0, 0, -2, 0},
                {0, 7, 4, 0, 0, 1, 3},
                {1, 7, 12, 3, 3, 3, 3},
                {1, 7, -12, -3, -3, -3, -3},
                {1, 7, 13, -100, -100, -100, -100},
                {9, 7, 0, 0, 0, 0, 0},
                {99, 7, 306, 3, 3, 3, 3},
            };
            for (int[] t : told) {
                AgainstFeather x = hearts(1);
                x.deed(0, 0, t[0], t[1], NONE);
                x.known(0, t[2]);
                for (int i = 0; i < 4; i++) due(java.util.Arrays.toString(t) + ", " + i, x.smallest(i), t[3 + i]);
            }
            for (int i = 0; i < 4; i++) due("nothing is known", hearts(1).smallest(i), 0);
        });
        sentence("TELLS: the DEED that TEXTS that FIT weigh most unlikely: by which the most TEXTS that weigh it alike are fewest; of like ones the lowest; none without.", () -> {
            AgainstFeather x = hearts(1, 2);
            due("without deeds and texts", x.tells(), NONE);
            read(x, "");
            due("without deeds", x.tells(), NONE);
            x = hearts(1, 2);
            // four laws: fear tells 2 from 2, none tells nothing, seen tells all
            x.deed(0, 0, 9, 0, NONE);
            due("without texts", x.tells(), NONE);
            read(x, "weight size;");
            read(x, "weight size+seen;");
            read(x, "weight size+2*seen+fear;");
            read(x, "weight size+3*seen+fear;");
            due("all are alike, but it is there", x.tells(), 0);
            x.deed(0, 0, 9, 4, NONE);
            due("two and two", x.tells(), 1);
            x.deed(1, 0, 9, 1, NONE);
            x.deed(1, 0, 9, 1, NONE);
            due("none are alike; of like ones the lowest", x.tells(), 2);
            x.known(0, 19);
            due("of those that fit: 2 and 3", x.fit(), 12);
            due("by these deed 2 tells", x.tells(), 2);
            x.known(1, 22);
            due("2 alone fits", x.fit(), 4);
            due("nothing tells more: the lowest", x.tells(), 0);
            x.known(1, 23);
            due("without texts that fit", x.tells(), NONE);
        });
    }

    private static void feathers() {
        sentence("SHOULD: HEARTS (bits) that should pass (told; at first none).", () -> {
            AgainstFeather x = hearts(1, 2, 3, 4, 5, 6);
            due("at first none", x.about(10), 0);
            due("all", x.should(63), true);
            due("told", x.about(10), 63);
            due("none", x.should(0), true);
            due("told", x.about(10), 0);
            due("the last", x.should(32), true);
            due("told", x.about(10), 32);
        });
        sentence("FEATHER FOR ALL: the FEATHER (0 .. 999) for all HEARTS by which the fewest of them are judged otherwise (by BURDEN: above it is HEAVY, else not); of like ones the least; and how many are.", () -> {
            int[][] told = {
                // should; the feather, how many
                {0, 0, 0}, {1, 5, 0}, {4, 0, 1}, {2, 0, 1}, {5, 7, 0}, {3, 5, 1}, {7, 9, 0}, {6, 9, 1},
            };
            for (int[] t : told) {
                AgainstFeather x = hearts(1, 2, 3);
                add(x, 0, 5);
                add(x, 1, 9);
                add(x, 2, 7);
                x.should(t[0]);
                due("5 9 7, should " + t[0], x.featherForAll(false), t[1]);
                due("5 9 7, should " + t[0] + ", how many", x.featherForAll(true), t[2]);
            }
            for (int burden = 998; burden <= 1000; burden++) {
                AgainstFeather x = rule(deeds(5, 0, 1), "weight size*" + (burden - 500) + "+500-500*size;");
                due("burden", x.ofHeart(0, 2), burden);
                x.should(1);
                due("should", x.featherForAll(false), burden < 1000 ? burden : 0);
                due("should, how many", x.featherForAll(true), burden < 1000 ? 0 : 1);
            }
            AgainstFeather one = deeds(5, 1);
            due("1 is above 0", one.featherForAll(true), 0);
            due("1 is above 0", one.featherForAll(false), 0);
            one.should(1);
            due("1 isn't above 1", one.featherForAll(false), 1);
            one.heart(5);
            due("0 isn't above 0", one.featherForAll(true), 1);
            AgainstFeather less = rule(deeds(5, 0), "weight -5;");
            due("-5 isn't above 0", less.featherForAll(true), 1);
            due("0 is the least", less.featherForAll(false), 0);
            less.should(1);
            due("-5 should pass", less.featherForAll(true), 0);
            AgainstFeather stuck = deeds(5, 7);
            stuck.stick(99);
            stuck.should(1);
            due("by burden, whatever sticks", stuck.featherForAll(false), 7);
            due("nobody is there", hearts().featherForAll(false), 0);
            due("nobody is there", hearts().featherForAll(true), 0);
        });
    }

    /** Out of 10 to the n, by going through all right and wrong weighings. */
    private static BigInteger right(int e, int n) {
        BigInteger sum = BigInteger.ZERO;
        for (int ways = 0; ways < 1 << n; ways++) {
            int many = Integer.bitCount(ways);
            if (many > n - many) sum = sum.add(BigInteger.valueOf(10 - e).pow(many).multiply(BigInteger.valueOf(e).pow(n - many)));
        }
        return sum;
    }

    private static void erring() {
        BigInteger[][] rights = new BigInteger[11][16];
        for (int e = 0; e <= 10; e++) for (int n = 1; n <= 15; n += 2) rights[e][n] = right(e, n);
        sentence("A SCALE that errs e times out of 10 (0 .. 10): ODDS that of n weighings (1, 3, .. 15) more are right than wrong; in lowest terms.", () -> {
            for (int e = 0; e <= 10; e++) {
                AgainstFeather x = new AgainstFeather();
                for (int n = 1; n <= 15; n += 2) {
                    BigInteger all = BigInteger.TEN.pow(n);
                    BigInteger common = all.gcd(rights[e][n]);
                    due("upper of " + e + ", " + n, x.odds(e, n, false), rights[e][n].divide(common).longValueExact());
                    due("lower of " + e + ", " + n, x.odds(e, n, true), all.divide(common).longValueExact());
                }
            }
            AgainstFeather x = new AgainstFeather();
            due("never", x.odds(10, 15, false), 0);
            due("never", x.odds(10, 15, true), 1);
            due("always", x.odds(0, 15, false), 1);
            due("always", x.odds(0, 15, true), 1);
        });
        sentence("OFTEN: the fewest n by which they are q out of 100 (1 .. 100) or more; none.", () -> {
            for (int e = 0; e <= 10; e++) {
                AgainstFeather x = new AgainstFeather();
                for (int q = 1; q <= 100; q++) {
                    int fewest = NONE;
                    for (int n = 15; n >= 1; n -= 2) {
                        BigInteger least = BigInteger.TEN.pow(n).multiply(BigInteger.valueOf(q));
                        if (rights[e][n].multiply(BigInteger.valueOf(100)).compareTo(least) >= 0) fewest = n;
                    }
                    due(e + " errs, " + q, x.often(e, q), fewest);
                }
            }
            AgainstFeather x = new AgainstFeather();
            due("70 are 70", x.often(3, 70), 1);
            due("71", x.often(3, 71), 3);
            due("50 are 50", x.often(5, 50), 1);
            due("51 never", x.often(5, 51), NONE);
            due("100", x.often(0, 100), 1);
            due("100 never", x.often(1, 100), NONE);
            due("0 is never 1", x.often(10, 1), NONE);
        });
    }

    private static void days() {
        sentence("A DAY by a SEED: X is SEED (0 .. 9999) * 2 + 19;", () -> {
            AgainstFeather x = hearts(5);
            for (int seed : new int[] {0, 9999, 1, 5000, 0}) {
                due("day", x.day(seed, 1), 0);
                due("x of " + seed, x.about(5), anew(seed * 2 + 19, 2));
            }
            refused("-1", NONE, y -> y.day(-1, 1));
            refused("10000", NONE, y -> y.day(10000, 1));
        });
        sentence("n times (1 .. 20):", () -> {
            for (int n : new int[] {1, 2, 19, 20}) {
                AgainstFeather x = hearts(5);
                due("day", x.day(3, n), 0);
                due("written down", x.book(NONE, 0), n);
                due("x", x.about(5), anew(25, 2 * n));
            }
            refused("0", NONE, y -> y.day(3, 0));
            refused("21", NONE, y -> y.day(3, 21));
            refused("-1", NONE, y -> y.day(3, -1));
        });
        sentence("the HEART X mod how many there are is WEIGHED; X anew;", () -> {
            for (int many = 1; many <= 6; many++) {
                for (int seed = 0; seed < 20; seed++) {
                    AgainstFeather x = hearts(0, 100, 200, 300, 400, 500);
                    if (many < 6) x = hearts(java.util.Arrays.copyOf(new int[] {0, 100, 200, 300, 400, 500}, many));
                    x.stick(0);
                    if (many > 1) x.lend(0, 1, 7);
                    int drawn = seed * 2 + 19;
                    x.day(seed, 3);
                    for (int i = 0; i < 3; i++) {
                        int heart = drawn % many;
                        due("heart " + i + " of " + seed, x.book(i, 0), heart);
                        due("weighed as lent now", x.book(i, 2), many > 1 && heart < 2 ? heart * 14 - 7 : 0);
                        drawn = anew(drawn, 2);
                    }
                }
            }
        });
        sentence("its DEEDS are laid, beginning with the one (of its, by number) X mod how many it has, and then on by number, behind the last one the first;", () -> {
            // 1 2 4 by 3: 7 is shown; 2 4 1: 6; 4 1 2: 4
            int[] shown = {7, 6, 4};
            int[] seen = new int[3];
            for (int seed = 0; seed < 60; seed++) {
                AgainstFeather x = hearts(50, 50);
                x.stick(3);
                add(x, 1, 30);
                add(x, 0, 1);
                add(x, 1, 30);
                add(x, 0, 2, 4);
                int drawn = seed * 2 + 19;
                x.day(seed, 1);
                int first = anew(drawn) % 3;
                boolean zero = drawn % 2 == 0;
                due("shown by " + seed, x.book(0, 1), zero ? shown[first] : 60);
                due("true by " + seed, x.book(0, 2), zero ? 7 : 60);
                AgainstFeather one = deeds(50, 1, 2, 4);
                one.stick(3);
                one.day(seed, 1);
                due("alone, shown by " + seed, one.book(0, 1), shown[first]);
                due("alone, true by " + seed, one.book(0, 2), 7);
                seen[first]++;
            }
            for (int first = 0; first < 3; first++) due("some begin with " + first, seen[first] > 5, true);
            AgainstFeather all = rule(deeds(0, new int[24]), "weight 1;");
            all.day(0, 1);
            due("24 deeds", all.book(0, 2), 24);
        });
        sentence("X anew (also without DEEDS);", () -> {
            AgainstFeather without = hearts(5);
            without.day(4, 1);
            due("without", without.about(5), anew(27, 2));
            AgainstFeather with = deeds(5, 1, 1, 1);
            with.day(4, 1);
            due("with three", with.about(5), anew(27, 2));
        });
        sentence("each JUDGE by number is answered no, if X mod 10 is below 5, else truly, X anew for each;", () -> {
            int[] ends = new int[10];
            for (int seed = 0; seed < 100; seed++) {
                // judges 0 and 2 ask what is so, 1 what isn't; the lies' weights tell to whom they were
                AgainstFeather x = rule(hearts(50), "lie 10*judge*judge+10;sticks 0;");
                x.deed(0, 1, 1, 0, NONE);
                x.judge(2);
                x.judge(4);
                x.judge(2);
                int drawn = anew(seed * 2 + 19, 2);
                int truth = 1;
                int lies = 0;
                for (int j = 0; j < 3; j++) {
                    ends[drawn % 10]++;
                    if (drawn % 10 < 5 && j != 1) {
                        truth += 10 * j * j + 10;
                        lies++;
                    }
                    drawn = anew(drawn);
                }
                x.day(seed, 1);
                due("lies of " + seed, x.book(0, 3), lies);
                due("true of " + seed, x.book(0, 2), truth);
                due("x of " + seed, x.about(5), drawn);
            }
            for (int i = 0; i < 10; i++) due("some X end with " + i, ends[i] > 5, true);
        });
        sentence("it is JUDGED.", () -> {
            AgainstFeather x = deeds(3, 10);
            x.day(0, 2);
            due("written down", x.book(NONE, 0), 2);
            due("which", x.book(0, 4), 0);
            due("ill", x.about(4), 14);
            due("no weighing is left", x.scale(0), NOT_SUCH);
            AgainstFeather y = deeds(10, 10);
            y.day(0, 1);
            due("passes", y.book(0, 4), 1);
            AgainstFeather z = deeds(61, 10);
            z.day(0, 1);
            due("up", z.book(0, 4), 2);
            AgainstFeather full = hearts(5);
            full.day(0, 20);
            full.day(0, 20);
            due("the latest 30", full.book(NONE, 0), 30);
            AgainstFeather most = rule(deeds(0, new int[24]), "weight 999;");
            most.day(0, 20);
            due("9999 at most", most.about(4), 9999);
        });
        sentence("X anew is (X * 223 + 109) mod 30161.", () -> {
            AgainstFeather x = hearts(5);
            x.day(0, 1);
            // 19: 4346, 4115
            due("twice", x.about(5), 4115);
            x.judge(1);
            x.day(0, 1);
            due("three times", x.about(5), 12924);
            for (int seed = 0; seed < 200; seed++) {
                x.day(seed * 50, 20);
                due("x", x.about(5), anew(seed * 100 + 19, 60));
            }
        });
        sentence("It is one STEP: how many didn't PASS (HEAVY ones).", () -> {
            for (int seed = 0; seed < 30; seed++) {
                // 0 is heavy, 1 goes up, 2 passes
                AgainstFeather x = hearts(0, 100, 5);
                add(x, 0, 5);
                add(x, 2, 5);
                int drawn = seed * 2 + 19;
                int heavy = 0;
                for (int i = 0; i < 20; i++) {
                    if (drawn % 3 == 0) heavy++;
                    drawn = anew(drawn, 2);
                }
                due("heavy by " + seed, x.day(seed, 20), heavy);
                due("one step", x.about(8), 1);
                due("taken back", x.undo(), 0);
                due("x", x.about(5), 19);
                due("written down", x.book(NONE, 0), 0);
                due("ill", x.about(4), 0);
            }
        });
    }

    private static void images() {
        sentence("AN IMAGE: all as it is, but the tape and the latest FAULT. BACK: all is so again.", () -> {
            AgainstFeather x = rich();
            AgainstFeather twin = rich();
            x.image();
            twin.image();
            for (int round = 0; round < 2; round++) {
                changeAll(x);
                read(x, "end end;");
                feedAll(x, "heart");
                x.back();
                due("the tape stays", x.about(11), 5);
                due("the latest fault stays", x.fault(0), 1);
                due("its place stays", x.fault(1), 4);
            }
            read(x, "weight 10000;");
            feedAll(x, "heart 7;");
            same("going back", x, twin);
            AgainstFeather last = hearts(5, 5, 5, 5, 5, 0);
            add(last, 5, 5);
            last.bond(5, 4, 5);
            last.lend(5, 4, 3);
            last.image();
            last.bond(5, 4, 4);
            last.lend(5, 4, 4);
            last.back();
            due("the last bond", last.lending(5, 4), 5);
            due("the last that is lent", last.ofHeart(5, 14), 3);
            AgainstFeather full = hearts(5, 5);
            for (int i = 1; i <= 40; i++) full.lend(0, 1, i);
            full.image();
            for (int i = 0; i < 35; i++) full.undo();
            for (int i = 50; i < 93; i++) full.lend(0, 1, i);
            full.back();
            due("the steps, too", full.about(8), 30);
            for (int i = 39; i >= 10; i--) {
                full.undo();
                due("lent then", full.ofHeart(0, 11), i);
            }
            due("no more", full.undo(), NONE);
        });
    }

    private static void changeAll(AgainstFeather x) {
        for (int i = 0; i < 2; i++) x.undo();
        x.judged();
        x.heart(99);
        x.deed(3, 9, 9, 7, 1);
        x.judge(1023);
        x.witness(0, 8);
        x.stick(77);
        x.bond(0, 1, 1);
        x.bond(3, 2, 9);
        read(x, "weight 3;sticks 3;");
        x.by(1);
        x.lend(1, 0, 60);
        x.lend(3, 0, 61);
        x.day(77, 20);
        x.day(78, 20);
        x.known(NONE, 0);
        x.known(3, 1);
        x.should(8);
        x.weigh(3);
        x.lay(3);
    }
}
