import java.util.List;
import java.util.Map;

/** Part II of the document: the language of the texts. */
final class TextSentences extends Sentences {
    static void all() {
        under("Terms");
        tokens();
        clauses();
        sums();
        names();
        faults();
        laws();
        scripts();
    }

    private static void tokens() {
        sentence("TEXTS 0 .. 3: of up to 300 bytes.", () -> {
            AgainstFeather x = new AgainstFeather();
            for (int i = 0; i <= 3; i++) due("text", read(x, "heart " + i + ";"), i);
            due("a fifth", read(x, "heart 5;"), NONE);
            due("texts", x.about(6), 4);
            String most = "weight  " + "1+".repeat(145) + "1;";
            due("300 bytes", most.length(), 300);
            AgainstFeather y = deeds(5, 5);
            for (int i = 0; i <= 3; i++) {
                due("300 bytes", read(y, most.replace("1;", i + ";")), i);
                due("not one more", y.about(11), 0);
            }
            for (int i = 0; i <= 3; i++) {
                y.by(i);
                due("all of them are read", y.ofDeed(0, 6), 145 + i);
            }
            due("the 300th byte counts", play(hearts(), " ".repeat(292) + "heart 1;"), NONE);
            faulty(" ".repeat(299) + ";", 1, 299);
            faulty(" ".repeat(293) + "heart 1", 1, 300);
        });
        sentence("TOKENS, blanks (32, 10) aside:", () -> {
            fine("\n weight \n ( 1 \n)  ; \n");
            fine(" \n ");
            faulty("we ight 1;", 1, 0);
            faulty("heart 1 2;", 1, 8);
            for (int b : new int[] {0, 9, 11, 12, 13, 31, 33, 127, 128, 138, 160, 255}) faulty("end" + (char) b + ";", 1, 3);
        });
        sentence("letters a .. z, A .. Z one behind the other (one TOKEN),", () -> {
            faulty("endend;", 1, 0);
            faulty("end end;", 1, 4);
            for (char c : "azAZ".toCharArray()) faulty("end" + c + ";", 1, 0);
            for (char c : "@[`{".toCharArray()) faulty("end" + c + ";", 1, 3);
            faulty("END;", 1, 0);
            faulty("weights 1;", 1, 0);
            faulty("featherr 1;", 1, 0);
            faulty("abcdefghijklmnopqrstuvwxyz;", 1, 0);
            faulty("up abcdefgh;", 1, 3);
            faulty("up deedsdeeds;", 1, 3);
            faulty("weight featherr;", 1, 7);
            faulty("up dee;", 1, 3);
            fine("lay1;lend1to2by3;weight1;");
        });
        sentence("digits likewise (NUMBERS, 0 .. 9999),", () -> {
            fine("weight 0;");
            fine("weight 9999;");
            faulty("weight 10000;", 2, 7);
            fine("weight 0000000000000000000000009999;");
            faulty("weight 00010000;", 2, 7);
            faulty("weight 2147483648;", 2, 7);
            faulty("weight 4294967301;", 2, 7);
            faulty("weight 18446744073709551617;", 2, 7);
            faulty("heart 1/;", 1, 7);
            faulty("heart 1:;", 1, 7);
            AgainstFeather x = new AgainstFeather();
            due("digits from 0 to 9", play(x, "heart 908;heart 712;heart 654;heart 33;"), NONE);
            int[] feathers = {908, 712, 654, 33};
            for (int i = 0; i < 4; i++) due("feather", x.ofHeart(i, 0), feathers[i]);
        });
        sentence("<= >= < > = # + - * / ( ) , ; (the longest).", () -> {
            for (String token : List.of("<=", ">=", "<", ">", "=", "#", ")", ",", "|", "(")) faulty("weight 1" + token + "2;", 1, 8);
            for (String token : List.of("<=", ">=", "<", ">", "=", "#", ")", ",", "+", "*", "/", ";")) faulty("weight " + token + "2;", 1, 7);
            for (String token : List.of("+", "-", "*", "/", "--", "+-", "*-", "/-")) fine("weight 1" + token + "2;");
        });
    }

    private static void clauses() {
        sentence("{CLAUSE}, 24 at most:", () -> {
            fine("");
            fine("end;");
            fine("end;".repeat(24));
            faulty("end;".repeat(25), 6, 96);
            due("none is done", play(new AgainstFeather(), ""), NONE);
        });
        sentence("weight SUM ; or sticks SUM ; or lie SUM ; or up SUM ; (each once)", () -> {
            fine("up 1;lie 2;sticks 3;weight 4;");
            for (String law : List.of("weight", "sticks", "lie", "up")) {
                int length = law.length();
                fine(law + " 1;");
                faulty(law + ";", 1, length);
                faulty(law, 1, length);
                faulty(law + " 1", 1, length + 2);
                faulty(law + " 1,", 1, length + 2);
                faulty(law + " 1;end;" + law + " 1;", 4, length + 7);
            }
        });
        sentence("or heart NUMBER ; (its FEATHER)", () -> {
            AgainstFeather x = new AgainstFeather();
            due("played", play(x, "heart 0;heart 999;"), NONE);
            due("hearts", x.about(0), 2);
            due("feather", x.ofHeart(0, 0), 0);
            due("feather", x.ofHeart(1, 0), 999);
            faulty("heart;", 1, 5);
            faulty("heart x;", 1, 6);
            faulty("heart -1;", 1, 6);
            faulty("heart 1,2;", 1, 7);
        });
        sentence("or deed NUMBER size NUMBER of NUMBER {, WORD} ; (KIND, SIZE, HEART; WORDS seen, repaid, fear: each once)", () -> {
            AgainstFeather x = hearts(1, 2, 3, 4, 5, 6);
            due("played", play(x, "deed 9 size 99 of 5;deed 0 size 0 of 0,fear,repaid,seen;deed 4 size 7 of 3,repaid;deed 1 size 1 of 1,fear;deed 1 size 1 of 1,seen;"), NONE);
            int[][] told = {{5, 9, 99, 0, NONE}, {0, 0, 0, 7, NONE}, {3, 4, 7, 2, NONE}, {1, 1, 1, 4, NONE}, {1, 1, 1, 1, NONE}};
            for (int d = 0; d < 5; d++) for (int k = 0; k < 5; k++) due("deed " + d + ", " + k, x.ofDeed(d, k), told[d][k]);
            faulty("deed;", 1, 4);
            faulty("deed 1;", 1, 6);
            faulty("deed 1 size;", 1, 11);
            faulty("deed 1 of 1 size 1;", 1, 7);
            faulty("deed 1 2 of 0;", 1, 7);
            faulty("deed 1 size 2 0;", 1, 14);
            faulty("deed 1 size 1;", 1, 13);
            faulty("deed 1 size 1 of;", 1, 16);
            faulty("deed 1 size 1 of 0 seen;", 1, 19);
            faulty("deed 1 size 1 of 0,;", 1, 19);
            faulty("deed 1 size 1 of 0,bid;", 1, 19);
            faulty("deed 1 size 1 of 0,3;", 1, 19);
            faulty("deed 1 size 1 of 0,seen,repaid,fear,;", 1, 36);
            for (String word : List.of("seen", "repaid", "fear")) faulty("deed 1 size 1 of 0," + word + "," + word + ";", 4, 20 + word.length());
            faulty("deed 1 size 1 of 0,seen,repaid,fear,seen;", 4, 36);
        });
        sentence("or judge NUMBER {, NUMBER} ; (KINDS, each once)", () -> {
            int[] kinds = {512, 33, 1023};
            for (int kind = 0; kind < 10; kind++) {
                AgainstFeather y = hearts(1);
                y.deed(0, kind, 1, 0, NONE);
                due("played", play(y, "judge 9;judge 5,0;judge 9,8,7,6,5,4,3,2,1,0;"), NONE);
                for (int j = 0; j < 3; j++) due("judge " + j + ", kind " + kind, y.isSo(j, 0), kinds[j] >> kind & 1);
            }
            faulty("judge;", 1, 5);
            faulty("judge 1,;", 1, 8);
            faulty("judge 1 2;", 1, 8);
            faulty("judge ,1;", 1, 6);
            for (int kind = 0; kind < 10; kind++) faulty("judge " + kind + "," + kind + ";", 4, 8);
            faulty("judge 0,1,2,3,4,5,6,7,8,9,0;", 4, 26);
        });
        sentence("or lend NUMBER to NUMBER by NUMBER ; (HEARTS, 0 .. 99)", () -> {
            AgainstFeather x = hearts(1, 2, 3, 4, 5, 6);
            due("played", play(x, "lend 0 to 5 by 99;lend 5 to 1 by 1;"), NONE);
            due("lent", x.ofHeart(0, 15), 99);
            due("lent", x.ofHeart(5, 11), 1);
            due("played", play(x, "lend 0 to 5 by 0;"), NONE);
            due("lent", x.ofHeart(0, 15), 0);
            faulty("lend;", 1, 4);
            faulty("lend 0 by 1 to 1;", 1, 7);
            faulty("lend 0 1 by 1;", 1, 7);
            faulty("lend 0 to 1 1;", 1, 12);
            faulty("lend 0 to;", 1, 9);
            faulty("lend 0 to 1;", 1, 11);
            faulty("lend 0 to 1 to 2;", 1, 12);
            faulty("lend 0 to 1 by;", 1, 14);
            faulty("lend 0 to 1 by 1,;", 1, 16);
        });
        sentence("or weigh NUMBER ; or lay NUMBER ; or yes NUMBER ; or no NUMBER ; (JUDGES) or end ;.", () -> {
            AgainstFeather x = hearts(1, 2, 3, 4, 5, 60);
            add(x, 5, new int[24]);
            for (int j = 0; j < 8; j++) x.judge(1);
            due("played", play(x, "weigh 5;lay 0;lay 23;no 0;yes 7;no 6;"), NONE);
            due("weighed", x.scale(0), 5);
            due("laid", x.scale(4), 1 << 23 | 1);
            due("answered", x.scale(5), 1 << 7 | 1 << 6 | 1);
            due("yes is a lie here, no isn't", x.scale(3), 1);
            due("played", play(x, "end;"), NONE);
            due("judged", x.book(NONE, 0), 1);
            for (String word : List.of("weigh", "lay", "yes", "no")) {
                fine(word + " 0;");
                faulty(word + ";", 1, word.length());
                faulty(word + " 1,2;", 1, word.length() + 2);
                faulty(word + " x;", 1, word.length() + 1);
            }
            faulty("end 1;", 1, 4);
            faulty("end", 1, 3);
            faulty(";", 1, 0);
            faulty("end;;", 1, 4);
        });
    }

    private static void sums() {
        sentence("SUM: PRODUCT {+ or - PRODUCT}.", () -> {
            worth("5", 5);
            worth("5+6", 11);
            worth("5-6", -1);
            worth("2*3+4*5-6/3", 24);
            faulty("weight 1+;", 1, 9);
            faulty("weight 1-;", 1, 9);
            faulty("weight +1;", 1, 7);
            faulty("weight 1 1;", 1, 9);
            faulty("weight 1++1;", 1, 9);
        });
        sentence("PRODUCT: ONE {* or / ONE}.", () -> {
            worth("7*3", 21);
            worth("7/3", 2);
            worth("2+3*4", 14);
            worth("20-6/2", 17);
            faulty("weight 1*;", 1, 9);
            faulty("weight 1/;", 1, 9);
            faulty("weight *1;", 1, 7);
            faulty("weight /1;", 1, 7);
            faulty("weight 1**1;", 1, 9);
        });
        sentence("ONE: NUMBER, NAME, ( SUM ), - ONE,", () -> {
            worth("7", 7);
            worth("size", 12);
            worth("(2+3)*4", 20);
            worth("-5", -5);
            worth("--5", 5);
            worth("-size*2+30", 6);
            worth("2--3", 5);
            worth("2*-3", -6);
            worth("-(2+3)", -5);
            worth("-7/2", -3);
            faulty("weight ();", 1, 8);
            faulty("weight (1;", 1, 9);
            faulty("weight 1);", 1, 8);
            faulty("weight -;", 1, 8);
            faulty("weight (1|;", 1, 9);
        });
        sentence("| SUM | (its size; it is one TOKEN that opens, if a ONE stands there, else it shuts).", () -> {
            worth("|5|", 5);
            worth("|3-5|", 2);
            worth("||1|-3|", 2);
            worth("|1*|2-5||", 3);
            worth("-|2-5|*|-2|", -6);
            worth("|0|", 0);
            faulty("weight ||;", 1, 9);
            faulty("weight |1;", 1, 9);
            faulty("weight 1|;", 1, 8);
            faulty("weight |1||2|;", 1, 10);
            faulty("weight |1|2|;", 1, 10);
            faulty("weight |1);", 1, 9);
        });
        sentence("From the left; / cuts towards 0, by 0 it is 0;", () -> {
            worth("20-7-3", 10);
            worth("20/7*3", 6);
            worth("3*20/7", 8);
            worth("100/7/3", 4);
            worth("7/2", 3);
            worth("-7/2", -3);
            worth("7/-2", -3);
            worth("-7/-2", 3);
            worth("1/2", 0);
            worth("-1/2", 0);
            worth("7/0", 0);
            worth("-7/0", 0);
            worth("5+7/(size-12)", 5);
            worth("0/0", 0);
            worth("9/0*5+1", 1);
        });
        sentence("what is above 1000000 (below the same less) is that, at each step.", () -> {
            worth("1000*1000/2000", 500);
            worth("999*1001-1000*1000", -1);
            worth("1000*1000+1-1000*1000", 0);
            worth("1000*1000-1000*1000+1", 1);
            worth("2000*1000/4000", 250);
            worth("-2000*1000/4000", -250);
            worth("1000*1000+1000*1000-1000*999", 999);
            worth("1000*1000+1000*1000-1000*1000", 0);
            worth("-1000*1000-1+1000*1000", 0);
            worth("-999*1001+1000*1000", 1);
            worth("-1000*1000-1000*1000+1000*1000", 0);
            worth("9999*9999*9999/2000", 500);
            worth("9999*9999*-9999/2000", -500);
            worth("|-1000*2000|/2000", 500);
            worth("-(1000*2000)/2000", -500);
            AgainstFeather x = ruled("sticks 1000*2000/5000-199;lie 1000*2000/5000;up 1000*2000/5000-150;", 60);
            add(x, 0, 1, 1);
            x.judge(2);
            x.weigh(0);
            due("1 isn't more than 1 apart", x.lay(0), 0);
            due("2 are", x.lay(1), 2);
            x.answer(0, true);
            due("a lie of 200", x.scale(1), 202);
            x.weigh(0);
            due("50 are below 60", x.judged(), 2);
        });
    }

    private static final Map<String, List<String>> NAMES = Map.of(
        "weight", List.of("kind", "size", "seen", "repaid", "fear", "bid"),
        "sticks", List.of("shown", "laid"),
        "lie", List.of("lies", "judge", "kinds", "hidden"),
        "up", List.of("deeds"));

    private static void names() {
        sentence("NAMES: heart, feather in all;", () -> {
            for (String law : NAMES.keySet()) fine(law + " heart+feather;");
            worth("heart*100+feather", 160);
            AgainstFeather x = ruled("sticks heart*10+feather;lie heart*10+feather;up heart*10+feather;", 1, 5, 40);
            x.lend(0, 1, 15);
            due("15 aren't more than 10 + 5 apart", x.weigh(1), 0);
            x.lend(0, 1, 16);
            due("16 are", x.weigh(1), 16);
            x.judge(1);
            x.answer(0, true);
            due("a lie of 15", x.scale(1), 31);
            x.lend(2, 0, 99);
            x.weigh(2);
            due("-99 and 20 + 40 are below 40", x.judged(), 2);
            x.lend(2, 0, 60);
            x.weigh(2);
            due("-60, shown as 0, and 60 aren't below 40", x.judged(), 1);
            for (String law : List.of("", "weight heart+feather;")) {
                AgainstFeather lie = ruled(law + "lie heart*10+feather;", 1, 5);
                add(lie, 0, 1);
                lie.judge(2);
                lie.weigh(1);
                lie.ofDeed(0, 6);
                lie.answer(0, true);
                due("a lie of 15 in that law alone", lie.scale(1), 15);
                AgainstFeather sticks = ruled(law + "sticks heart*10+feather;", 1, 5);
                add(sticks, 0, 1);
                sticks.lend(0, 1, 15);
                sticks.ofDeed(0, 6);
                due("15 aren't more than 15 apart in that law alone", sticks.weigh(1), 0);
                AgainstFeather up = ruled(law + "up heart*9+feather;", 1, 30);
                add(up, 0, 1);
                up.weigh(1);
                up.ofDeed(0, 6);
                due("39 aren't below 30 in that law alone", up.judged(), 1);
            }
        });
        sentence("kind, size, seen, repaid, fear, bid (1: by another one; 0) in weight;", () -> {
            worth("kind", 7);
            worth("size", 12);
            worth("seen*100+repaid*10+fear", 110);
            worth("bid", 1);
            AgainstFeather x = ruled("weight seen*1+repaid*2+fear*4+bid*8;", 1);
            x.deed(0, 0, 0, 4, NONE);
            due("fear alone, bid by nobody", x.ofDeed(0, 6), 4);
        });
        sentence("shown, laid (how many DEEDS) in sticks;", () -> {
            AgainstFeather x = rule(deeds(90, 3, 3, 4, 8, 1), "sticks shown+laid*2;");
            x.weigh(0);
            due("3 are more than 0 + 2 apart", x.lay(0), 3);
            due("3 aren't more than 3 + 4 apart", x.lay(1), 3);
            due("7 aren't more than 3 + 6 apart", x.lay(2), 3);
            due("15 are more than 3 + 8 apart", x.lay(3), 18);
            due("1 isn't", x.lay(4), 18);
            AgainstFeather none = ruled("sticks 5-laid*9;", 10, 10);
            none.lend(0, 1, 5);
            due("none is laid as it begins", none.weigh(1), 0);
        });
        sentence("lies, judge, kinds (how many it asks about), hidden (how many of the HEART's DEEDS of these KINDS weren't SEEN) in lie;", () -> {
            AgainstFeather x = ruled("lie lies*500+judge*100+kinds*10+hidden;sticks 0;", 500, 500);
            x.judge(1);
            x.judge(1023);
            x.judge(6);
            x.deed(0, 1, 0, 0, NONE);
            x.deed(0, 1, 0, 6, NONE);
            x.deed(0, 2, 0, 1, NONE);
            x.deed(0, 2, 0, 7, NONE);
            x.deed(0, 3, 0, 0, NONE);
            x.deed(0, 0, 0, 0, NONE);
            x.deed(1, 1, 0, 0, NONE);
            x.weigh(0);
            x.answer(2, true);
            due("judge 2: two kinds, two deeds that weren't seen", x.scale(1), 222);
            x.weigh(0);
            x.answer(1, true);
            due("judge 1: ten kinds, four that weren't seen", x.scale(1), 204);
            x.weigh(0);
            x.answer(0, true);
            due("judge 0: one kind, one", x.scale(1), 11);
            x.answer(2, true);
            due("a lie is ahead of it", x.scale(1), 733);
        });
        sentence("deeds (how many the HEART has) in up.", () -> {
            AgainstFeather x = ruled("up deeds*10;", 21, 20, 1, 0);
            add(x, 0, 0, 0);
            add(x, 1, 0, 0);
            x.weigh(0);
            due("20 are below 21", x.judged(), 2);
            x.weigh(1);
            due("20 aren't below 20", x.judged(), 1);
            x.weigh(2);
            due("without deeds: 0 is below 1", x.judged(), 2);
            x.weigh(3);
            due("without deeds: 0 isn't below 0", x.judged(), 1);
        });
    }

    private static void faults() {
        sentence("FAULTS, the first as TOKENS are come to, at the TOKEN's first byte (of the end at the length), of one the least:", () -> {
            faulty("heart 1000;foo;", 2, 6);
            faulty("end;foo;heart 1000;", 1, 4);
            faulty("up 1;weight lies;up 1;", 5, 12);
            faulty("up 1;up lies;", 4, 5);
            faulty("  \n foo", 1, 4);
            faulty("heart   1000;", 2, 8);
            faulty("heart", 1, 5);
            faulty("heart \n\n ", 1, 9);
            faulty("end;".repeat(24) + "foo", 1, 96);
            faulty("end;".repeat(24) + "3", 1, 96);
            faulty("up 1;" + "end;".repeat(23) + "up 1;", 4, 97);
            faulty("weight 1 10000;", 1, 9);
            faulty("judge 10,10;", 2, 6);
            faulty("weight ((((((((1)))))))) (;", 1, 25);
        });
        sentence("1 it can't stand there, or is none.", () -> {
            faulty("foo;", 1, 0);
            faulty("feather 1;", 1, 0);
            faulty("seen;", 1, 0);
            faulty("7;", 1, 0);
            faulty("(1);", 1, 0);
            faulty("weight foo;", 1, 7);
            faulty("weight weight;", 1, 7);
            faulty("weight end;", 1, 7);
            faulty("weight of;", 1, 7);
            faulty("weight 1 of;", 1, 9);
            faulty("weight size size;", 1, 12);
            faulty("weight ,;", 1, 7);
            faulty("end @;", 1, 4);
            faulty("\0", 1, 0);
            faulty("weight 1.5;", 1, 8);
            faulty("weight \u00ff;", 1, 7);
        });
        sentence("2 a NUMBER that isn't one of those told (above 9999; FEATHERS 0 .. 999, KINDS 0 .. 9, SIZES 0 .. 99, HEARTS 0 .. 5, LENT 0 .. 99, DEEDS 0 .. 23, JUDGES 0 .. 7).", () -> {
            for (String law : NAMES.keySet()) {
                fine(law + " 9999;");
                faulty(law + " 10000;", 2, law.length() + 1);
                faulty(law + " 1*(10000);", 2, law.length() + 4);
            }
            fine("heart 999;deed 9 size 99 of 5;judge 9;lend 5 to 5 by 99;weigh 5;lay 23;yes 7;no 7;");
            fine("heart 0;deed 0 size 0 of 0;judge 0;lend 0 to 0 by 0;weigh 0;lay 0;yes 0;no 0;");
            faulty("heart 1000;", 2, 6);
            faulty("deed 10 size 1 of 1;", 2, 5);
            faulty("deed 1 size 100 of 1;", 2, 12);
            faulty("deed 1 size 1 of 6;", 2, 17);
            faulty("judge 10;", 2, 6);
            faulty("judge 1,10;", 2, 8);
            faulty("lend 6 to 1 by 1;", 2, 5);
            faulty("lend 1 to 6 by 1;", 2, 10);
            faulty("lend 1 to 1 by 100;", 2, 15);
            faulty("weigh 6;", 2, 6);
            faulty("lay 24;", 2, 4);
            faulty("yes 8;", 2, 4);
            faulty("no 8;", 2, 3);
            faulty("no 10000;", 2, 3);
            faulty("no 4294967296;", 2, 3);
        });
        sentence("3 the 9th of (, | and - (of one ONE) that are open around one another (at it).", () -> {
            fine("weight ((((((((1))))))));");
            fine("weight ||||||||1||||||||;");
            fine("weight --------1;");
            fine("weight (|-(|-(|1|)|)|);");
            faulty("weight (((((((((1)))))))));", 3, 15);
            faulty("weight |||||||||1|||||||||;", 3, 15);
            faulty("weight ---------1;", 3, 15);
            faulty("weight ((((((((|1|))))))));", 3, 15);
            faulty("weight ((((((((-1))))))));", 3, 15);
            faulty("weight ||||||||-1||||||||;", 3, 15);
            faulty("weight --------(1);", 3, 15);
            faulty("weight (|-(|-(|-1|)|)|);", 3, 15);
            // what is shut is open no more, and a - between two isn't one of a ONE
            fine("weight (1)+(1)+(1)+(1)+(1)+(1)+(1)+(1)+(1);");
            fine("weight -1*-1*-1*-1*-1*-1*-1*-1*-1;");
            fine("weight |1|+|1|+|1|+|1|+|1|+|1|+|1|+|1|+|1|;");
            fine("weight ((((((((1-1-1))))))));");
            fine("weight (((((((-1+-1)))))));");
            faulty("weight ((((((((1))))))))+(((((((((1;", 3, 33);
            worth("((((((((1+2)*2)+3)*2)+4)*2)+5)*2)", 98);
            worth("1-(2-(3-(4-(5-(6-(7-(8-(9-10*11))))))))", -105);
            worth("1-1*(".repeat(8) + "2-3*4" + ")".repeat(8), -10);
        });
        sentence("4 weight, sticks, lie, up for the second time; a WORD of a deed, a KIND of a judge for the second time (at it).", () -> {
            for (String law : NAMES.keySet()) {
                faulty(law + " 1;" + law + " 1;", 4, law.length() + 3);
                faulty(law + " 1; " + law, 4, law.length() + 4);
            }
            faulty("deed 1 size 1 of 1,seen,fear,seen;", 4, 29);
            faulty("judge 1,2,1;", 4, 10);
            faulty("judge 1,01;", 4, 8);
            fine("deed 1 size 1 of 1,seen;deed 1 size 1 of 1,seen;judge 1;judge 1;heart 1;heart 1;");
        });
        sentence("5 a NAME that isn't of that CLAUSE (at it).", () -> {
            for (String law : NAMES.keySet()) {
                for (String other : NAMES.keySet()) {
                    for (String name : NAMES.get(other)) {
                        if (law.equals(other)) fine(law + " 1+" + name + ";");
                        else faulty(law + " 1+" + name + ";", 5, law.length() + 3);
                    }
                }
            }
        });
        sentence("6 the 25th CLAUSE (at its first TOKEN).", () -> {
            fine("up 1;lie 1;sticks 1;weight 1;" + "lay 1;".repeat(20));
            faulty("lay 1;".repeat(24) + "lay 1;", 6, 144);
            faulty("lay 1;".repeat(24) + " \n end", 6, 147);
            faulty("lay 1;".repeat(24) + "lay 99;", 6, 144);
            faulty("end;".repeat(24) + "weight foo;", 6, 96);
            fine("lay 1;".repeat(24) + " \n ");
        });
    }

    private static void laws() {
        sentence("THE TEXT (told; at first none) rules.", () -> {
            AgainstFeather x = deeds(10, 5);
            due("at first none", x.about(7), NONE);
            read(x, "weight size+1;");
            read(x, "weight size+2;");
            due("none is told", x.about(7), NONE);
            due("weight", x.ofDeed(0, 6), 5);
            due("told", x.by(1), true);
            due("weight", x.ofDeed(0, 6), 7);
            due("told", x.by(0), true);
            due("weight", x.ofDeed(0, 6), 6);
            due("told none", x.by(NONE), true);
            due("weight", x.ofDeed(0, 6), 5);
        });
        sentence("weight: -999 at least, 999 at most; without: SIZE.", () -> {
            worth("998", 998);
            worth("999", 999);
            worth("1000", 999);
            worth("9999*9999", 999);
            worth("-998", -998);
            worth("-999", -999);
            worth("-1000", -999);
            worth("-9999*9999", -999);
            AgainstFeather x = rule(deeds(1, 0, 99), "up 1;lie 1;sticks 1;");
            due("without", x.ofDeed(0, 6), 0);
            due("without", x.ofDeed(1, 6), 99);
        });
        sentence("sticks: 0 at least, 99 at most; without: STICK.", () -> {
            for (String law : List.of("sticks 99;", "sticks 100;", "sticks 9999*9999;")) {
                AgainstFeather x = rule(deeds(500, 99, 1), law);
                x.weigh(0);
                due(law + " 99", x.lay(0), 0);
                due(law + " 100", x.lay(1), 100);
            }
            AgainstFeather less = rule(deeds(500, 98, 1), "sticks 98;");
            less.weigh(0);
            due("98", less.lay(0), 0);
            due("99", less.lay(1), 99);
            for (String law : List.of("sticks 0;", "sticks -1;", "sticks -9999*9999;")) {
                AgainstFeather x = rule(deeds(500, 0, 1), law);
                x.weigh(0);
                due(law + " 0", x.lay(0), 0);
                due(law + " 1", x.lay(1), 1);
            }
            AgainstFeather without = rule(deeds(500, 7, 1), "weight size;up 1;lie 1;");
            without.stick(7);
            without.weigh(0);
            due("7", without.lay(0), 0);
            due("8", without.lay(1), 8);
        });
        sentence("lie: 0 at least, 999 at most; without: 3.", () -> {
            String[] laws = {"lie 998;", "lie 999;", "lie 1000;", "lie 0;", "lie -1;", "lie -9999;", "weight 1;up 1;sticks 1;"};
            int[] weights = {998, 999, 999, 0, 0, 0, 3};
            for (int i = 0; i < laws.length; i++) {
                AgainstFeather x = ruled(laws[i], 10);
                x.judge(1);
                x.weigh(0);
                due("a lie", x.answer(0, true), 1);
                due(laws[i], x.scale(1), weights[i]);
            }
        });
        sentence("up: 0 at least, 999 at most; without: 50.", () -> {
            for (String law : List.of("up 999;", "up 1000;", "up 9999*9999;")) {
                AgainstFeather x = ruled(law, 999, 0);
                x.stick(0);
                x.weigh(0);
                due(law + " 0 and 999 aren't below 999", x.judged(), 1);
                x.lend(0, 1, 1);
                x.weigh(0);
                due(law + " -1 and 999 are", x.judged(), 2);
            }
            AgainstFeather less = ruled("up 998;", 999);
            less.weigh(0);
            due("0 and 998 are below 999", less.judged(), 2);
            for (String law : List.of("up 0;", "up -1;", "up -9999*9999;")) {
                AgainstFeather x = ruled(law, 0, 1);
                x.weigh(0);
                due(law + " 0 isn't below 0", x.judged(), 1);
                x.weigh(1);
                due(law + " 0 is below 1", x.judged(), 2);
            }
            AgainstFeather without = ruled("weight 1;lie 1;sticks 1;", 50, 51);
            without.weigh(0);
            due("50", without.judged(), 1);
            without.weigh(1);
            due("51", without.judged(), 2);
        });
    }

    private static void scripts() {
        sentence("PLAYED by a TEXT: its CLAUSES but laws, in their order, as by hand;", () -> {
            AgainstFeather x = new AgainstFeather();
            due("played", play(x, "weight 9;heart 40;heart 50;deed 3 size 8 of 1,fear;judge 3,0;lie 20;lend 0 to 1 by 4;weigh 1;lay 0;no 0;end;weigh 0;"), NONE);
            AgainstFeather y = hearts(40, 50);
            y.deed(1, 3, 8, 4, NONE);
            y.judge(9);
            y.lend(0, 1, 4);
            y.weigh(1);
            y.lay(0);
            y.answer(0, false);
            y.judged();
            y.weigh(0);
            due("the laws don't rule", x.book(0, 2), 15);
            due("nor is one told to", x.about(7), NONE);
            due("steps", x.about(8), 6);
            read(y, "");
            same("playing", y, x);
        });
        sentence("one that can't be ends it: its number among all CLAUSES (from 0); what was done stays.", () -> {
            AgainstFeather x = new AgainstFeather();
            due("the last one", play(x, "up 3;heart 9;weigh 0;lie 1;heart 8;lay 0;"), 5);
            due("what was done stays", x.about(0), 2);
            due("what was done stays", x.scale(0), 0);
            due("the first one", play(x, "weigh 2;heart 7;"), 0);
            due("what is behind it isn't done", x.about(0), 2);
            x = hearts(1, 1, 1, 1, 1, 1);
            due("a seventh heart", play(x, "heart 1;"), 0);
            due("a deed of no heart", play(hearts(1), "deed 0 size 0 of 1;"), 0);
            x = deeds(5, new int[24]);
            due("a 25th deed", play(x, "deed 0 size 0 of 0;"), 0);
            x = new AgainstFeather();
            due("a ninth judge", play(x, "judge 1;".repeat(9)), 8);
            x = hearts(1, 1);
            due("a lending to itself", play(x, "lend 0 to 0 by 1;"), 0);
            due("a lending to no heart", play(x, "lend 0 to 2 by 1;"), 0);
            due("a lending that is so", play(x, "lend 0 to 1 by 2;lend 0 to 1 by 2;"), 1);
            due("a weighing of no heart", play(x, "weigh 2;"), 0);
            x = hearts(1, 1);
            add(x, 0, 1);
            add(x, 1, 1);
            x.judge(1);
            due("no weighing", play(x, "lay 0;"), 0);
            due("another's deed", play(x, "weigh 0;lay 1;"), 1);
            due("a deed twice", play(x, "lay 0;lay 0;"), 1);
            due("a judge twice", play(x, "yes 0;no 0;"), 1);
            x = hearts(1);
            x.judge(1);
            due("no weighing", play(x, "yes 0;"), 0);
            due("no weighing", play(x, "no 0;"), 0);
            due("no weighing", play(x, "end;"), 0);
            due("no such judge", play(x, "weigh 0;no 1;"), 1);
            due("the 24th", play(new AgainstFeather(), "judge 1;judge 1;" + "up 1;" + "judge 1;".repeat(6) + "heart 1;".repeat(6) + "weigh 0;weigh 0;weigh 0;weigh 0;weigh 0;weigh 0;weigh 0;weigh 0;lay 0;"), 23);
        });
    }
}
