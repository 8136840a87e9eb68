/** Each promise of the document by its number: ordinary inputs, the edges that it names, and wrong inputs. */
public final class PromiseTests {
    private static final int NONE = AgainstFeather.NONE;
    private static final int[] FAR = {Integer.MIN_VALUE, -100000, -2, 1 << 24, Integer.MAX_VALUE};
    private static int wrong = 0;
    private static int promise = 0;

    private static void due(String call, long got, long want) {
        if (got != want) {
            wrong++;
            System.out.println("promise " + promise + ": " + call + " answered " + got + ", due is " + want);
        }
    }

    private static void due(String call, boolean got, boolean want) {
        due(call, got ? 1L : 0L, want ? 1L : 0L);
    }

    private static void feedAll(AgainstFeather x, String text) {
        x.end(0);
        for (int at = 0; at < text.length(); at += 20) {
            int[] fours = new int[5];
            for (int i = 0; i < 20; i++) {
                int b = at + i < text.length() ? text.charAt(at + i) & 255 : 0;
                fours[i / 4] = fours[i / 4] << 8 | b;
            }
            x.feed(fours[0], fours[1], fours[2], fours[3], fours[4]);
        }
        x.end(text.length());
    }

    private static int read(AgainstFeather x, String text) {
        feedAll(x, text);
        return x.text();
    }

    /** Reads a text on a new object: its fault and place. */
    private static void faulty(String text, int fault, int place) {
        AgainstFeather x = new AgainstFeather();
        due("text \"" + text + "\"", read(x, text), fault == 0 ? 0 : NONE);
        due("fault of \"" + text + "\"", x.fault(0), fault);
        due("place in \"" + text + "\"", x.fault(1), place);
    }

    /** A new object where a text rules. */
    private static AgainstFeather ruled(String text) {
        AgainstFeather x = new AgainstFeather();
        due("text \"" + text + "\"", read(x, text), 0);
        due("by", x.by(0), true);
        return x;
    }

    /** Hearts with these feathers. */
    private static AgainstFeather hearts(int... feathers) {
        AgainstFeather x = new AgainstFeather();
        for (int f : feathers) x.heart(f);
        return x;
    }

    public static void main(String[] args) {
        told();
        tape();
        language();
        sums();
        weighing();
        scripts();
        days();
        stepsBack();
        looking();
        orders();
        denying();
        lendings();
        kindnesses();
        laws();
        feathers();
        erring();
        images();
        System.out.println(wrong == 0 ? "all promises are kept" : wrong + " answers are not as due");
        if (wrong != 0) System.exit(1);
    }

    // ---- 1 to 7: what is told

    private static void told() {
        promise = 1;
        AgainstFeather x = new AgainstFeather();
        int[] first = {0, 0, 0, 1, 0, 19, 0, NONE, 0, 0, 0, 0};
        for (int i = 0; i < first.length; i++) due("about(" + i + ")", x.about(i), first[i]);
        due("book", x.book(NONE, 0), 0);
        x.heart(5);
        x.stick(7);
        due("back", x.back(), 0);
        due("hearts", x.about(0), 0);
        due("stick", x.about(3), 1);
        due("NONE", NONE, -1);

        promise = 2;
        x = new AgainstFeather();
        due("heart(-1)", x.heart(-1), NONE);
        due("heart(1000)", x.heart(1000), NONE);
        for (int f : FAR) due("heart", x.heart(f), NONE);
        for (int i = 0; i < 6; i++) due("heart", x.heart(i == 0 ? 0 : 999), i);
        due("a seventh", x.heart(5), NONE);
        due("hearts", x.about(0), 6);
        due("feather", x.ofHeart(0, 0), 0);
        due("feather", x.ofHeart(5, 0), 999);

        promise = 3;
        x = hearts(10, 20);
        for (int f : FAR) {
            due("deed of", x.deed(f, 1, 1, 0, NONE), NONE);
            due("deed kind", x.deed(0, f, 1, 0, NONE), NONE);
            due("deed size", x.deed(0, 1, f, 0, NONE), NONE);
            due("deed marks", x.deed(0, 1, 1, f, NONE), NONE);
            due("deed bid", x.deed(0, 1, 1, 0, f), NONE);
        }
        due("deed of -1", x.deed(-1, 1, 1, 0, NONE), NONE);
        due("deed of 2", x.deed(2, 1, 1, 0, NONE), NONE);
        due("kind 10", x.deed(0, 10, 1, 0, NONE), NONE);
        due("size 100", x.deed(0, 0, 100, 0, NONE), NONE);
        due("marks 8", x.deed(0, 0, 1, 8, NONE), NONE);
        due("bid by itself", x.deed(0, 0, 1, 0, 0), NONE);
        due("bid by none such", x.deed(0, 0, 1, 0, 2), NONE);
        for (int i = 0; i < 24; i++) due("deed", x.deed(i % 2, 9, 99, 7, i == 3 ? 0 : NONE), i);
        due("a 25th", x.deed(0, 0, 0, 0, NONE), NONE);
        due("deeds", x.about(1), 24);
        due("bid", x.ofDeed(3, 4), 0);

        promise = 4;
        due("at first none", x.ofDeed(0, 5), 0);
        due("witness", x.witness(0, 3), true);
        due("witnesses", x.ofDeed(0, 5), 3);
        due("none", x.witness(0, 0), true);
        due("witnesses", x.ofDeed(0, 5), 0);
        due("not told", x.witness(0, 4), false);
        due("-1", x.witness(0, -1), false);
        due("deed -1", x.witness(-1, 1), false);
        due("deed 24", x.witness(24, 1), false);
        for (int f : FAR) {
            due("witness", x.witness(f, 1), false);
            due("witness", x.witness(0, f), false);
        }

        promise = 5;
        x = new AgainstFeather();
        due("judge(0)", x.judge(0), NONE);
        due("judge(1024)", x.judge(1024), NONE);
        due("judge(-1)", x.judge(-1), NONE);
        for (int f : FAR) due("judge", x.judge(f), NONE);
        for (int i = 0; i < 8; i++) due("judge", x.judge(i == 7 ? 1023 : 1 << i), i);
        due("a ninth", x.judge(1), NONE);
        due("judges", x.about(2), 8);

        promise = 6;
        due("stick(-1)", x.stick(-1), false);
        due("stick(100)", x.stick(100), false);
        for (int f : FAR) due("stick", x.stick(f), false);
        due("stick", x.about(3), 1);
        due("stick(0)", x.stick(0), true);
        due("stick", x.about(3), 0);
        due("stick(99)", x.stick(99), true);
        due("stick", x.about(3), 99);

        promise = 7;
        x = hearts(10, 20);
        due("bond", x.bond(0, 1, 0), true);
        due("bond", x.bond(1, 0, 99), true);
        due("the same once more", x.bond(1, 0, 99), true);
        due("to itself", x.bond(1, 1, 1), false);
        due("100", x.bond(0, 1, 100), false);
        due("-1", x.bond(0, 1, -1), false);
        due("none such", x.bond(0, 2, 1), false);
        due("none such", x.bond(2, 0, 1), false);
        for (int f : FAR) {
            due("bond", x.bond(f, 1, 1), false);
            due("bond", x.bond(0, f, 1), false);
            due("bond", x.bond(0, 1, f), false);
        }
        due("steps", x.about(8), 0);
    }

    // ---- 8 to 12: the tape and the texts

    private static void tape() {
        promise = 8;
        AgainstFeather x = new AgainstFeather();
        for (int i = 1; i <= 15; i++) due("feed", x.feed(0, 0, 0, 0, 0), i * 20);
        due("more than 300", x.feed(0, 0, 0, 0, 0), NONE);
        due("bytes", x.about(11), 300);
        due("end", x.end(281), 281);
        due("301", x.feed(0, 0, 0, 0, 0), NONE);
        due("bytes", x.about(11), 281);
        due("end", x.end(280), 280);
        due("feed", x.feed(0, 0, 0, 0, 0), 300);
        x.end(0);
        // "heart 7;" by its bytes: the highest one of the first number comes first
        x.feed('h' << 24 | 'e' << 16 | 'a' << 8 | 'r', 't' << 24 | ' ' << 16 | '7' << 8 | ';', ' ' << 24 | ' ' << 16 | ' ' << 8 | ' ', 0x20202020, 0x0a0a0a0a);
        due("text", x.text(), 0);
        due("played", x.played(0), NONE);
        due("feather", x.ofHeart(0, 0), 7);

        promise = 9;
        x = new AgainstFeather();
        due("end(0)", x.end(0), 0);
        due("end(1)", x.end(1), NONE);
        due("end(-1)", x.end(-1), NONE);
        x.feed(0, 0, 0, 0, 0);
        due("end(21)", x.end(21), NONE);
        for (int f : FAR) due("end", x.end(f), NONE);
        due("bytes", x.about(11), 20);
        due("end(20)", x.end(20), 20);
        due("end(7)", x.end(7), 7);
        due("bytes", x.about(11), 7);

        promise = 10;
        x = new AgainstFeather();
        due("an empty one", x.text(), 0);
        due("blanks", read(x, " \n "), 1);
        feedAll(x, "end");
        due("faulty", x.text(), NONE);
        due("the tape is empty then", x.about(11), 0);
        due("a third", read(x, "end;"), 2);
        due("the tape is empty then", x.about(11), 0);
        due("a fourth", read(x, "end;end;"), 3);
        feedAll(x, "en");
        due("a fifth", x.text(), NONE);
        due("the tape stays", x.about(11), 2);
        due("nothing was read", x.fault(0), 0);
        due("texts", x.about(6), 4);

        promise = 11;
        x = new AgainstFeather();
        due("ahead of any", x.fault(0), NONE);
        due("ahead of any", x.fault(1), NONE);
        read(x, "end end;");
        due("fault", x.fault(0), 1);
        due("place", x.fault(1), 4);
        due("others", x.fault(2), NONE);
        due("others", x.fault(-1), NONE);
        for (int f : FAR) due("others", x.fault(f), NONE);
        read(x, "end;");
        due("without", x.fault(0), 0);
        due("without", x.fault(1), NONE);

        promise = 12;
        x = new AgainstFeather();
        due("by(0)", x.by(0), false);
        due("by(NONE)", x.by(NONE), true);
        read(x, "weight 2*size;");
        due("none rules", x.about(7), NONE);
        due("by(0)", x.by(0), true);
        due("it rules", x.about(7), 0);
        due("by(1)", x.by(1), false);
        for (int f : FAR) due("by", x.by(f), false);
        due("it rules", x.about(7), 0);
        x.heart(5);
        x.deed(0, 0, 4, 0, NONE);
        due("weight", x.ofDeed(0, 6), 8);
        due("by(NONE)", x.by(NONE), true);
        due("weight", x.ofDeed(0, 6), 4);
    }

    private static void language() {
        promise = 10;
        faulty("weight size;sticks shown+laid;lie lies+judge+kinds+hidden;up deeds+heart+feather;", 0, NONE);
        faulty("weight heart+feather+kind+size+seen+repaid+fear+bid;", 0, NONE);
        faulty("deed 9 size 99 of 5 , fear,\nseen ,repaid ;judge 0,9,8,7,6,5,4,3,2,1;heart 999;", 0, NONE);
        faulty("lend 5 to 5 by 99;weigh 5;lay 23;yes 7;no 7;end;", 0, NONE);
        faulty("weight1;lay1;", 0, NONE);
        faulty("heart 0000000000000000999;", 0, NONE);
        faulty("weight 9999;", 0, NONE);
        faulty("weight ((((((((1))))))));", 0, NONE);
        faulty("weight ||||||||1||||||||;", 0, NONE);
        faulty("weight --------1;", 0, NONE);
        faulty("weight -1+-1+-1+-1+-1+-1+-1+-1+-1+-1+(1)+|1|;", 0, NONE);
        faulty("end;".repeat(24), 0, NONE);

        promise = 11;
        // 1: it can't stand there, or is none
        faulty("foo;", 1, 0);
        faulty("Weight 1;", 1, 0);
        faulty("weights 1;", 1, 0);
        faulty("endA;", 1, 0);
        faulty("endZ;", 1, 0);
        faulty("enda;", 1, 0);
        faulty("endz;", 1, 0);
        faulty("end@;", 1, 3);
        faulty("end[;", 1, 3);
        faulty("end`;", 1, 3);
        faulty("end{;", 1, 3);
        faulty("featherx;", 1, 0);
        faulty("seen;", 1, 0);
        faulty("3;", 1, 0);
        faulty(";", 1, 0);
        faulty("weight;", 1, 6);
        faulty("weight", 1, 6);
        faulty("weight   ", 1, 9);
        faulty("weight foo;", 1, 7);
        faulty("weight weight;", 1, 7);
        faulty("weight 1 1;", 1, 9);
        faulty("weight 1 10000;", 1, 9);
        faulty("weight 1 size;", 1, 9);
        faulty("weight 1+;", 1, 9);
        faulty("weight +1;", 1, 7);
        faulty("weight (1;", 1, 9);
        faulty("weight 1);", 1, 8);
        faulty("weight (1|;", 1, 9);
        faulty("weight |1);", 1, 9);
        faulty("weight 1|;", 1, 8);
        faulty("weight ||;", 1, 9);
        faulty("weight 1 <= 2;", 1, 9);
        faulty("weight #;", 1, 7);
        faulty("weight 1\t;", 1, 8);
        faulty("weight 1\0;", 1, 8);
        faulty("weight 1\u00e9;", 1, 8);
        faulty("heart -1;", 1, 6);
        faulty("heart (1);", 1, 6);
        faulty("heart;", 1, 5);
        faulty("deed 1 of 0 size 1;", 1, 7);
        faulty("deed 1 size 1 of 0,;", 1, 19);
        faulty("deed 1 size 1 of 0,bid;", 1, 19);
        faulty("deed 1 size 1 of 0 seen;", 1, 19);
        faulty("judge;", 1, 5);
        faulty("judge 1,;", 1, 8);
        faulty("judge 1 2;", 1, 8);
        faulty("lend 0 by 1 to 2;", 1, 7);
        faulty("end 1;", 1, 4);
        faulty("end;;", 1, 4);
        faulty("end;".repeat(24) + ";", 1, 96);
        // 2: numbers
        faulty("weight 10000;", 2, 7);
        faulty("weight 99999999999999999999999;", 2, 7);
        faulty("heart 4294967296;", 2, 6);
        faulty("heart 1000;", 2, 6);
        faulty("deed 10 size 1 of 0;", 2, 5);
        faulty("deed 1 size 100 of 0;", 2, 12);
        faulty("deed 1 size 1 of 6;", 2, 17);
        faulty("judge 10;", 2, 6);
        faulty("judge 1,1,10;", 4, 8);
        faulty("judge 1,10,1;", 2, 8);
        faulty("lend 6 to 0 by 1;", 2, 5);
        faulty("lend 0 to 6 by 1;", 2, 10);
        faulty("lend 0 to 1 by 100;", 2, 15);
        faulty("weigh 6;", 2, 6);
        faulty("lay 24;", 2, 4);
        faulty("yes 8;", 2, 4);
        faulty("no 8;", 2, 3);
        // 3: the 9th that is open
        faulty("weight (((((((((1)))))))));", 3, 15);
        faulty("weight ---------1;", 3, 15);
        faulty("weight (|-(|-(|-1;", 3, 15);
        faulty("weight ((((((((1))))))))+|||||||||1;", 3, 33);
        // 4: for the second time
        faulty("weight 1;weight 1;", 4, 9);
        faulty("sticks 1;end;sticks", 4, 13);
        faulty("lie 1;lie 1;", 4, 6);
        faulty("up 1;up 1;", 4, 5);
        faulty("deed 1 size 1 of 0,fear,seen,fear;", 4, 29);
        faulty("judge 1,2,1;", 4, 10);
        faulty("judge 1,01;", 4, 8);
        faulty("judge 9,9;", 4, 8);
        faulty("up 1;" + "end;".repeat(23) + "up 1;", 4, 97);
        // 5: names of others
        faulty("weight shown;", 5, 7);
        faulty("weight deeds;", 5, 7);
        faulty("weight judge;", 5, 7);
        faulty("sticks lies;", 5, 7);
        faulty("lie size;", 5, 4);
        faulty("up kinds;", 5, 3);
        faulty("up |laid|;", 5, 4);
        // 6: the 25th
        faulty("end;".repeat(24) + "end", 6, 96);
        faulty("end;".repeat(24) + " weight 10000;", 6, 97);
    }

    private static int worth(String sum) {
        AgainstFeather x = ruled("weight " + sum + ";");
        x.heart(40);
        x.heart(60);
        x.deed(1, 7, 12, 3, 0);
        return x.ofDeed(0, 6);
    }

    private static void sums() {
        promise = 23;
        due("names", worth("heart*100+feather"), 160);
        due("names", worth("kind*10+size"), 82);
        due("marks", worth("seen*4+repaid*2+fear"), 6);
        due("bid", worth("bid"), 1);
        AgainstFeather y = ruled("weight seen*4+repaid*2+fear+bid*9;");
        y.heart(1);
        y.deed(0, 1, 1, 4, NONE);
        due("fear alone", y.ofDeed(0, 6), 1);
        due("from the left", worth("20-7-3"), 10);
        due("from the left", worth("20/7*3"), 6);
        due("products first", worth("2+3*4"), 14);
        due("towards 0", worth("-7/2"), -3);
        due("towards 0", worth("7/-2"), -3);
        due("by 0", worth("7/0"), 0);
        due("by 0", worth("5+7/(size-12)"), 5);
        due("size", worth("|3-size|"), 9);
        due("size", worth("|3-|size-20||*|-2|"), 10);
        due("minus", worth("2--3"), 5);
        due("minus", worth("-2*3"), -6);
        due("at most", worth("size*100"), 999);
        due("at least", worth("-size*100"), -999);
        due("1000000 at each step", worth("9999*9999/9999"), 100);
        due("1000000 at each step", worth("-9999*9999/9999"), -100);
        due("1000000 at each step", worth("9999*100+9999-9999*100"), 100);
        due("1000000 at each step", worth("-9999*100-9999+9999*100"), -100);

        AgainstFeather x = hearts(40);
        x.deed(0, 1, 33, 0, NONE);
        due("without a law", x.ofDeed(0, 6), 33);
        read(x, "up 1;");
        x.by(0);
        due("without that law", x.ofDeed(0, 6), 33);
    }

    // ---- 13 to 17: weighing

    private static void weighing() {
        promise = 13;
        AgainstFeather x = hearts(10, 20, 30);
        due("it is so", x.lend(0, 1, 0), false);
        due("lend", x.lend(0, 1, 99), true);
        due("it is so", x.lend(0, 1, 99), false);
        due("100", x.lend(0, 1, 100), false);
        due("-1", x.lend(0, 1, -1), false);
        due("itself", x.lend(1, 1, 3), false);
        due("none such", x.lend(3, 1, 3), false);
        due("none such", x.lend(1, 3, 3), false);
        for (int f : FAR) {
            due("lend", x.lend(f, 1, 3), false);
            due("lend", x.lend(1, f, 3), false);
            due("lend", x.lend(0, 1, f), false);
        }
        due("lend", x.lend(2, 0, 9), true);
        due("steps", x.about(8), 2);
        due("lent", x.ofHeart(0, 4), -90);
        due("lent", x.ofHeart(1, 4), 99);
        due("lent", x.ofHeart(2, 4), -9);
        due("lent", x.ofHeart(2, 10), 9);

        promise = 14;
        due("weigh", x.weigh(0), -90);
        due("weigh", x.weigh(1), 99);
        due("heart", x.scale(0), 1);
        due("weigh(3)", x.weigh(3), -100000);
        due("weigh(-1)", x.weigh(-1), -100000);
        for (int f : FAR) due("weigh", x.weigh(f), -100000);
        due("the weighing stays", x.scale(0), 1);
        due("steps", x.about(8), 4);
        x.stick(99);
        due("99 are not more than 99 apart", x.weigh(1), 0);
        due("true", x.scale(1), 99);
        x.stick(98);
        due("99 are more than 98 apart", x.weigh(1), 99);
        x = ruled("sticks shown+laid+5*heart+feather/10;");
        x.heart(20);
        x.heart(30);
        x.lend(0, 1, 8);
        due("8 are 0 + 0 + 5 + 3", x.weigh(1), 0);
        x.lend(0, 1, 9);
        due("9 are more", x.weigh(1), 9);
        due("-9 are more than 2", x.weigh(0), -9);

        promise = 15;
        x = hearts(10, 20);
        x.deed(0, 1, 2, 0, NONE);
        x.deed(0, 1, 1, 0, NONE);
        x.deed(1, 1, 1, 0, NONE);
        x.stick(2);
        due("no weighing", x.lay(0), -100000);
        x.weigh(0);
        due("2 are not more than 2", x.lay(0), 0);
        due("true", x.scale(1), 2);
        due("twice", x.lay(0), -100000);
        due("another's", x.lay(2), -100000);
        due("none such", x.lay(3), -100000);
        due("none such", x.lay(-1), -100000);
        for (int f : FAR) due("lay", x.lay(f), -100000);
        due("3 are more than 2", x.lay(1), 3);
        due("laid", x.scale(4), 3);
        due("steps", x.about(8), 3);
        due("a deed told since", x.deed(0, 0, 9, 0, NONE), 3);
        due("can be laid", x.lay(3), 12);
        x = ruled("sticks laid*2;");
        x.heart(50);
        x.deed(0, 0, 2, 0, NONE);
        x.deed(0, 0, 3, 0, NONE);
        x.weigh(0);
        due("one is laid: 2 are not more than 2", x.lay(0), 0);
        due("two are laid: 5 are more than 4", x.lay(1), 5);
        x = ruled("sticks shown;weight kind-5;");
        x.heart(50);
        x.deed(0, 9, 0, 0, NONE);
        x.deed(0, 8, 0, 0, NONE);
        x.deed(0, 7, 0, 0, NONE);
        x.weigh(0);
        due("4 are more than 0", x.lay(0), 4);
        due("7 are not more than 4 from 4", x.lay(1), 4);
        due("9 are more than 4 from 4", x.lay(2), 9);
        x = ruled("sticks -5;");
        x.heart(50);
        x.deed(0, 0, 0, 0, NONE);
        x.deed(0, 0, 1, 0, NONE);
        x.weigh(0);
        due("0 at least", x.lay(0), 0);
        due("0 at least", x.lay(1), 1);
        x = ruled("sticks 5000;");
        x.heart(50);
        x.deed(0, 0, 99, 0, NONE);
        x.deed(0, 0, 1, 0, NONE);
        x.weigh(0);
        due("99 at most", x.lay(0), 0);
        due("99 at most", x.lay(1), 100);

        promise = 16;
        x = hearts(10);
        x.judge(2);
        x.judge(1022);
        x.judge(4);
        x.deed(0, 1, 5, 0, NONE);
        x.deed(0, 2, 0, 0, NONE);
        due("no weighing", x.answer(0, true), NONE);
        x.weigh(0);
        due("so, though not laid", x.answer(0, true), 0);
        due("twice", x.answer(0, false), NONE);
        due("a lie", x.answer(1, false), 1);
        due("true", x.scale(1), 3);
        due("shown", x.scale(2), 3);
        due("lies", x.scale(3), 1);
        due("what weighs 0 isn't so", x.answer(2, true), 1);
        due("lies", x.scale(3), 2);
        due("true", x.scale(1), 6);
        due("answered", x.scale(5), 7);
        due("none such", x.answer(3, true), NONE);
        due("none such", x.answer(-1, true), NONE);
        for (int f : FAR) due("answer", x.answer(f, true), NONE);
        due("steps", x.about(8), 4);
        x.weigh(0);
        due("no, truly", x.answer(2, false), 0);
        due("nothing changes", x.scale(1), 0);
        x = ruled("lie lies*100+judge*10+kinds+hidden*3+heart+feather;sticks 0;");
        x.heart(7);
        x.judge(6);
        x.judge(6);
        x.deed(0, 1, 5, 0, NONE);
        x.deed(0, 2, 5, 1, NONE);
        x.deed(0, 2, 5, 6, NONE);
        x.deed(0, 3, 5, 0, NONE);
        x.weigh(0);
        x.answer(1, false);
        due("10 + 2 + 6 + 7", x.scale(1), 25);
        x.answer(0, false);
        due("100 + 2 + 6 + 7 more", x.scale(1), 140);
        x = ruled("lie 0-9;");
        x.heart(7);
        x.judge(6);
        x.weigh(0);
        due("a lie", x.answer(0, true), 1);
        due("0 at least", x.scale(1), 0);
        x = ruled("lie 9999;");
        x.heart(7);
        x.judge(6);
        x.weigh(0);
        x.answer(0, true);
        due("999 at most", x.scale(1), 999);

        promise = 17;
        due("heavy", x.judged(), 0);
        due("ill", x.about(4), 992);
        due("no weighing", x.judged(), NONE);
        due("no weighing", x.scale(0), -100000);
        for (int i = 0; i < 11; i++) {
            x.weigh(0);
            x.answer(0, true);
            x.judged();
        }
        due("9999 at most", x.about(4), 9999);
        x = hearts(0, 50, 51);
        x.weigh(0);
        due("0 isn't above 0", x.judged(), 1);
        x.weigh(1);
        due("50 aren't below 50", x.judged(), 1);
        x.weigh(2);
        due("50 are below 51", x.judged(), 2);
        due("ill", x.about(4), 0);
        x = ruled("up deeds*2+heart+feather/10;");
        x.heart(6);
        x.heart(7);
        x.deed(1, 0, 1, 0, NONE);
        x.deed(1, 0, 1, 0, NONE);
        x.weigh(1);
        due("0 + 5 are below 7", x.judged(), 2);
        x.weigh(1);
        x.lay(0);
        x.lay(1);
        due("2 + 5 aren't below 7", x.judged(), 1);
        x = ruled("up -9;");
        x.heart(0);
        x.heart(1);
        x.weigh(0);
        due("0 at least: 0 isn't below 0", x.judged(), 1);
        x.weigh(1);
        due("0 is below 1", x.judged(), 2);
        x = ruled("up 9999;weight -999;sticks 0;");
        x.heart(1);
        x.deed(0, 0, 0, 0, NONE);
        x.deed(0, 0, 0, 0, NONE);
        x.weigh(0);
        x.lay(0);
        due("-999 + 999 are below 1", x.judged(), 2);
        x.weigh(0);
        x.lay(0);
        x.lay(1);
        due("-1998 + 999 are below 1", x.judged(), 2);
    }

    // ---- 18: scripts

    private static void scripts() {
        promise = 18;
        AgainstFeather x = new AgainstFeather();
        due("none such", x.played(0), -2);
        due("none such", x.played(NONE), -2);
        read(x, "heart 10;lie 7;heart 20;deed 3 size 9 of 1,repaid;judge 3,0;lend 0 to 1 by 4;weigh 1;lay 0;no 0;end;");
        due("all is done", x.played(0), NONE);
        due("none such", x.played(1), -2);
        for (int f : FAR) due("played", x.played(f), -2);
        due("hearts", x.about(0), 2);
        due("kind", x.ofDeed(0, 1), 3);
        due("size", x.ofDeed(0, 2), 9);
        due("marks", x.ofDeed(0, 3), 2);
        due("bid", x.ofDeed(0, 4), NONE);
        due("steps", x.about(8), 5);
        due("the text doesn't rule", x.book(0, 2), 16);
        due("lies", x.book(0, 3), 1);
        due("heart", x.book(0, 0), 1);
        due("which", x.book(0, 4), 1);
        due("that lending is so", x.played(0), 5);
        due("what was done stays", x.about(0), 4);
        x = hearts(50, 60);
        x.deed(0, 0, 5, 0, NONE);
        x.deed(1, 0, 6, 0, NONE);
        x.deed(1, 0, 7, 0, NONE);
        x.judge(2);
        x.judge(1);
        read(x, "lend 1 to 0 by 30;weigh 1;lay 2;lay 1;yes 1;no 0;");
        due("all is done", x.played(0), NONE);
        due("lent", x.ofHeart(1, 10), 30);
        due("heart", x.scale(0), 1);
        due("true", x.scale(1), -17);
        due("laid", x.scale(4), 6);
        due("answered", x.scale(5), 3);
        due("no lies", x.scale(3), 0);
        x = new AgainstFeather();
        read(x, "up 1;end;");
        due("no weighing", x.played(0), 1);
        read(x, "weigh 0;");
        due("no heart", x.played(1), 0);
        read(x, "deed 0 size 0 of 0;");
        due("no heart", x.played(2), 0);
        read(x, "heart 0;heart 0;heart 0;heart 0;heart 0;heart 0;heart 0;");
        due("six hearts", x.played(3), 6);
        x = new AgainstFeather();
        read(x, "judge 1;judge 1;judge 1;judge 1;judge 1;judge 1;judge 1;judge 1;judge 1;");
        due("eight judges", x.played(0), 8);
        read(x, "heart 0;weigh 0;yes 7;yes 7;");
        due("answered already", x.played(1), 3);
        read(x, "weigh 0;lay 0;");
        due("no deed", x.played(2), 1);
        read(x, "lend 0 to 0 by 1;");
        due("to itself", x.played(3), 0);
    }

    // ---- 19: days

    private static void days() {
        promise = 19;
        AgainstFeather x = new AgainstFeather();
        due("no hearts", x.day(0, 1), NONE);
        x.heart(5);
        due("seed", x.day(-1, 1), NONE);
        due("seed", x.day(10000, 1), NONE);
        due("n", x.day(0, 0), NONE);
        due("n", x.day(0, 21), NONE);
        for (int f : FAR) {
            due("seed", x.day(f, 1), NONE);
            due("n", x.day(1, f), NONE);
        }
        due("steps", x.about(8), 0);
        due("x", x.about(5), 19);
        // X is 20017 by the seed, and anew behind the heart and behind its deeds
        due("day", x.day(9999, 1), 0);
        int first = (int) ((20017L * 223 + 109) % 30161);
        int second = (int) ((first * 223L + 109) % 30161);
        due("x", x.about(5), second);
        due("one step", x.about(8), 1);
        due("written", x.book(NONE, 0), 1);
        // X 19: heart 0; 4346: the deed 4346 mod 3 = 2 first, then 0, 1; it sticks at 5: 7 at once, 9 and 12 from 7 (7, 7)
        x = hearts(6);
        x.stick(5);
        x.deed(0, 1, 2, 0, NONE);
        x.deed(0, 1, 3, 0, NONE);
        x.deed(0, 1, 7, 0, NONE);
        x.weigh(0);
        due("day", x.day(0, 1), 1);
        due("shown", x.book(0, 1), 7);
        due("true", x.book(0, 2), 12);
        due("the weighing is over", x.scale(0), -100000);
        due("ill", x.about(4), 1);
        due("undo", x.undo(), 1);
        due("the weighing is there again", x.scale(0), 0);
        due("x", x.about(5), 19);
        due("ill", x.about(4), 0);
        // X 4115 for the first judge: truly; 12924 for the second one: no, a lie
        x.judge(2);
        x.judge(2);
        due("day", x.day(0, 1), 1);
        due("lies", x.book(0, 3), 1);
        due("true", x.book(0, 2), 15);
        due("twenty", x.day(7, 20), 20);
        due("written", x.book(NONE, 0), 21);
        // X 29 by the seed: heart 1 of 2 with its one deed, and two judges
        x = hearts(5, 6);
        x.deed(1, 1, 9, 0, NONE);
        x.judge(2);
        x.judge(2);
        int drawn = 29;
        int lied = 0;
        drawn = (drawn * 223 + 109) % 30161;
        drawn = (drawn * 223 + 109) % 30161;
        for (int i = 0; i < 2; i++) {
            if (drawn % 10 < 5) lied++;
            drawn = (drawn * 223 + 109) % 30161;
        }
        due("day", x.day(5, 1), 1);
        due("heart", x.book(0, 0), 1);
        due("true", x.book(0, 2), 9 + 3 * lied);
        due("lies", x.book(0, 3), lied);
        due("x", x.about(5), drawn);
    }

    // ---- 20: steps

    private static void stepsBack() {
        promise = 20;
        AgainstFeather x = new AgainstFeather();
        due("none", x.undo(), NONE);
        x.heart(10);
        x.deed(0, 1, 30, 0, NONE);
        x.judge(2);
        due("what is told is no step", x.undo(), NONE);
        x.weigh(0);
        x.lay(0);
        x.answer(0, false);
        x.judged();
        due("ill", x.about(4), 23);
        x.heart(20);
        x.lend(1, 0, 4);
        due("undo", x.undo(), 4);
        due("lent", x.ofHeart(0, 4), 0);
        due("undo", x.undo(), 3);
        due("ill", x.about(4), 0);
        due("written", x.book(NONE, 0), 0);
        due("lies", x.scale(3), 1);
        due("undo", x.undo(), 2);
        due("lies", x.scale(3), 0);
        due("answered", x.scale(5), 0);
        due("true", x.scale(1), 30);
        due("undo", x.undo(), 1);
        due("laid", x.scale(4), 0);
        due("undo", x.undo(), 0);
        due("no weighing", x.scale(0), -100000);
        due("none", x.undo(), NONE);
        due("hearts stay", x.about(0), 2);
        AgainstFeather y = hearts(10);
        for (int i = 0; i < 3; i++) y.deed(0, i, 20 + i, 0, NONE);
        for (int i = 0; i < 3; i++) y.judge(1 << i);
        y.stick(30);
        y.day(1, 2);
        y.weigh(0);
        y.lay(1);
        y.lay(0);
        y.answer(2, false);
        y.stick(99);
        y.lay(2);
        y.weigh(0);
        y.lay(0);
        y.answer(0, true);
        y.judged();
        int[] was = {0, 66, 41, 1, 7, 4};
        for (int i = 0; i < 4; i++) y.undo();
        for (int i = 0; i < 6; i++) due("scale(" + i + ")", y.scale(i), was[i]);
        y.undo();
        int[] earlier = {0, 44, 41, 1, 3, 4};
        for (int i = 0; i < 6; i++) due("scale(" + i + ")", y.scale(i), earlier[i]);
        for (int i = 1; i <= 40; i++) x.lend(0, 1, i);
        due("30 at most", x.about(8), 30);
        for (int i = 29; i >= 0; i--) due("undo", x.undo(), i);
        due("none", x.undo(), NONE);
        due("the 31st stays", x.ofHeart(0, 11), 10);
        x.day(3, 20);
        x.day(4, 20);
        int eldest = x.book(0, 1);
        x.day(5, 20);
        x.undo();
        due("what was written down is as ahead of it", x.book(0, 1), eldest);
        due("written", x.book(NONE, 0), 30);
        x.undo();
        due("written", x.book(NONE, 0), 20);
    }

    // ---- 21 to 25: what is

    private static void looking() {
        promise = 21;
        AgainstFeather x = hearts(10, 30);
        for (int i = -1; i < 7; i++) due("scale", x.scale(i), -100000);
        x.deed(1, 2, 5, 0, NONE);
        x.deed(1, 3, 6, 0, NONE);
        x.judge(1);
        x.judge(4);
        x.weigh(1);
        x.lay(1);
        x.answer(1, false);
        int[] want = {1, 9, 9, 1, 2, 2};
        for (int i = 0; i < 6; i++) due("scale(" + i + ")", x.scale(i), want[i]);
        due("scale(6)", x.scale(6), -100000);
        due("scale(-1)", x.scale(-1), -100000);
        for (int f : FAR) due("scale", x.scale(f), -100000);

        promise = 22;
        x.lend(0, 1, 4);
        int[] of = {30, 3, 11, 19, 4};
        for (int i = 0; i < 5; i++) due("ofHeart(1, " + i + ")", x.ofHeart(1, i), of[i]);
        due("lent", x.ofHeart(0, 11), 4);
        due("lent", x.ofHeart(1, 10), 0);
        due("to itself", x.ofHeart(1, 11), 0);
        for (int i : new int[] {-1, 5, 9, 12, 15, 16}) due("ofHeart(1, " + i + ")", x.ofHeart(1, i), -100000);
        due("none such", x.ofHeart(2, 0), -100000);
        due("none such", x.ofHeart(-1, 0), -100000);
        for (int f : FAR) {
            due("ofHeart", x.ofHeart(f, 0), -100000);
            due("ofHeart", x.ofHeart(0, f), -100000);
        }

        promise = 23;
        x.deed(0, 4, 7, 5, 1);
        x.witness(2, 2);
        int[] deed = {0, 4, 7, 5, 1, 2, 7};
        for (int i = 0; i < 7; i++) due("ofDeed(2, " + i + ")", x.ofDeed(2, i), deed[i]);
        due("ofDeed(2, 7)", x.ofDeed(2, 7), -100000);
        due("ofDeed(2, -1)", x.ofDeed(2, -1), -100000);
        due("none such", x.ofDeed(3, 0), -100000);
        due("none such", x.ofDeed(-1, 0), -100000);
        for (int f : FAR) {
            due("ofDeed", x.ofDeed(f, 0), -100000);
            due("ofDeed", x.ofDeed(0, f), -100000);
        }
        due("no bid", x.ofDeed(0, 4), NONE);

        promise = 24;
        due("so", x.isSo(1, 1), 1);
        due("not so", x.isSo(1, 0), 0);
        due("not so", x.isSo(0, 1), 0);
        due("none such", x.isSo(2, 0), NONE);
        due("none such", x.isSo(-1, 0), NONE);
        due("none such", x.isSo(0, 2), NONE);
        due("none such", x.isSo(0, -1), NONE);
        for (int f : FAR) {
            due("isSo", x.isSo(f, 0), NONE);
            due("isSo", x.isSo(0, f), NONE);
        }
        read(x, "weight kind-2;");
        x.by(0);
        due("it weighs 0", x.isSo(1, 1), 0);
        read(x, "weight kind-1;");
        x.by(1);
        due("it weighs 1", x.isSo(1, 1), 1);

        promise = 25;
        x = hearts(10, 30);
        x.lend(0, 1, 40);
        due("none", x.book(NONE, 0), 0);
        due("none such", x.book(0, 0), -100000);
        x.weigh(1);
        x.judged();
        x.weigh(0);
        x.judged();
        due("two", x.book(NONE, 3), 2);
        int[] entry = {1, 40, 40, 0, 0};
        for (int i = 0; i < 5; i++) due("book(0, " + i + ")", x.book(0, i), entry[i]);
        due("heart", x.book(1, 0), 0);
        due("which", x.book(1, 4), 1);
        due("none such", x.book(2, 0), -100000);
        due("none such", x.book(-2, 0), -100000);
        due("others", x.book(0, 5), -100000);
        due("others", x.book(0, -1), -100000);
        for (int f : FAR) {
            due("book", x.book(f, 0), -100000);
            due("book", x.book(0, f), -100000);
        }
        for (int i = 0; i < 29; i++) {
            x.weigh(0);
            x.judged();
        }
        due("the latest 30", x.book(NONE, 0), 30);
        due("the eldest is gone", x.book(0, 0), 0);
        due("the 31st", x.book(30, 0), -100000);
    }

    // ---- 26 to 29: orders

    private static void orders() {
        AgainstFeather x = hearts(8, 5, 5, 5);
        x.stick(5);
        x.deed(0, 0, 3, 0, NONE);
        x.deed(0, 0, 4, 0, NONE);
        x.deed(0, 0, 5, 0, NONE);
        promise = 26;
        // 0 1 2: 0 7 7; 0 2 1: 0 8 8; 1 0 2: 0 7 7; 1 2 0: 0 9 9; 2 0 1: 0 8 8; 2 1 0: 0 9 9
        due("lightest", x.lightest(0, false, NONE), 7);
        due("its first", x.lightest(0, false, 0), 0);
        due("its second", x.lightest(0, false, 1), 1);
        due("its third", x.lightest(0, false, 2), 2);
        due("heaviest", x.lightest(0, true, NONE), 9);
        due("its first", x.lightest(0, true, 0), 1);
        due("its second", x.lightest(0, true, 1), 2);
        due("its third", x.lightest(0, true, 2), 0);
        due("none such", x.lightest(0, true, 3), -100000);
        due("none such", x.lightest(0, true, -2), -100000);
        due("none such", x.lightest(4, true, NONE), -100000);
        due("none such", x.lightest(-1, true, NONE), -100000);
        for (int f : FAR) {
            due("lightest", x.lightest(f, false, NONE), -100000);
            due("lightest", x.lightest(0, false, f), -100000);
        }
        due("no deeds", x.lightest(1, false, NONE), 0);
        due("no deeds", x.lightest(1, false, 0), -100000);
        x.lend(0, 1, 9);
        due("as lent now", x.lightest(1, true, NONE), 9);
        x.lend(0, 1, 0);
        for (int i = 0; i < 7; i++) x.deed(2, 0, 6, 0, NONE);
        due("7 deeds", x.lightest(2, false, NONE), 42);
        due("7 deeds", x.lightest(2, true, 6), 9);
        x.deed(2, 0, 6, 0, NONE);
        due("8 deeds", x.lightest(2, false, NONE), -100000);
        due("8 deeds", x.lightest(2, false, 0), -100000);

        promise = 27;
        due("passing", x.passing(0, NONE), 1);
        for (int i = 0; i < 3; i++) due("passing", x.passing(0, i), i);
        due("none such", x.passing(0, 3), -2);
        due("none such", x.passing(0, -2), -2);
        due("8 deeds", x.passing(2, NONE), -2);
        due("none such", x.passing(4, NONE), -2);
        due("none such", x.passing(-1, NONE), -2);
        for (int f : FAR) {
            due("passing", x.passing(f, NONE), -2);
            due("passing", x.passing(0, f), -2);
        }
        due("no deeds", x.passing(1, NONE), 1);
        due("no deeds", x.passing(1, 0), -2);
        x.deed(3, 0, 50, 0, NONE);
        due("no order", x.passing(3, NONE), 0);
        due("no order", x.passing(3, 0), -2);

        promise = 28;
        due("orderless", x.orderless(0), 0);
        due("no deeds", x.orderless(1), 1);
        due("8 deeds", x.orderless(2), NONE);
        due("one deed", x.orderless(3), 1);
        due("none such", x.orderless(4), NONE);
        due("none such", x.orderless(-1), NONE);
        for (int f : FAR) due("orderless", x.orderless(f), NONE);
        x.stick(0);
        due("orderless", x.orderless(0), 1);

        promise = 29;
        // by 1, 2 each deed is shown at once; by 3 the first one of 3 isn't
        due("sticking", x.sticking(0), 2);
        due("no deeds", x.sticking(1), 99);
        due("8 deeds", x.sticking(2), NONE);
        due("one deed", x.sticking(3), 99);
        due("none such", x.sticking(4), NONE);
        due("none such", x.sticking(-1), NONE);
        for (int f : FAR) due("sticking", x.sticking(f), NONE);
        due("stick stays", x.about(3), 0);
        read(x, "lie 1;");
        x.by(0);
        due("no law of sticks", x.sticking(0), 2);
        read(x, "sticks 1;");
        x.by(1);
        due("a law of sticks", x.sticking(0), NONE);
        x = hearts(9);
        for (int i = 0; i < 5; i++) x.deed(0, 0, 7, 0, NONE);
        due("5 deeds alike", x.sticking(0), 99);
        AgainstFeather y = ruled("weight size+kind*17;");
        y.heart(9);
        y.deed(0, 0, 99, 0, NONE);
        y.deed(0, 3, 99, 0, NONE);
        // 99 and 150: by 99 the first one doesn't move the pan, but the second one does
        due("all but 99", y.sticking(0), 98);
        x.deed(0, 0, 7, 0, NONE);
        due("6 deeds", x.sticking(0), NONE);
        due("nothing has changed", x.about(8), 0);
        x = ruled("sticks laid;");
        x.heart(9);
        x.deed(0, 0, 1, 0, NONE);
        x.deed(0, 0, 3, 0, NONE);
        // 0 1: 0 (1 from 0 by 1), 4 (by 2); 1 0: 3, 3 (4 from 3 by 2)
        promise = 26;
        due("by the law", x.lightest(0, false, NONE), 3);
        due("by the law", x.lightest(0, false, 0), 1);
        due("by the law", x.lightest(0, true, NONE), 4);
        x.heart(9);
        x.lend(1, 0, 1);
        // begun: 1 from 0 by 0; 0 1: 2 from 1 by 1, 5 from 1 by 2; 1 0: 4, 5 from 4 by 2
        due("as lent now", x.lightest(0, false, NONE), 4);
        due("as lent now", x.lightest(0, true, NONE), 5);
    }

    // ---- 30, 31: what can be denied

    private static void denying() {
        promise = 30;
        AgainstFeather x = hearts(10, 3);
        due("no judges", x.truly(0), 0);
        x.deed(0, 1, 4, 0, NONE);
        x.deed(0, 2, 0, 0, NONE);
        x.judge(2);
        x.judge(4);
        x.judge(6);
        due("truly", x.truly(0), 2);
        due("truly", x.truly(1), 7);
        due("none such", x.truly(2), NONE);
        due("none such", x.truly(-1), NONE);
        for (int f : FAR) due("truly", x.truly(f), NONE);

        promise = 31;
        // judges 0 and 2 ask what is so; 4 weighs it, 7 by one lie, 10 by two
        due("two may be yes", x.lies(0, 2), 0);
        due("one may be yes", x.lies(0, 1), 1);
        due("none may be yes", x.lies(0, 0), 5);
        due("8", x.lies(0, 8), 0);
        due("9", x.lies(0, 9), NONE);
        due("-1", x.lies(0, -1), NONE);
        due("none such", x.lies(2, 0), NONE);
        due("none such", x.lies(-1, 0), NONE);
        for (int f : FAR) {
            due("lies", x.lies(f, 0), NONE);
            due("lies", x.lies(0, f), NONE);
        }
        due("no deeds", x.lies(1, 0), 0);
        x.deed(0, 5, 1, 0, NONE);
        due("11 are too heavy", x.lies(0, 0), NONE);
        due("8 aren't", x.lies(0, 1), 1);
        read(x, "lie 4-judge;");
        x.by(0);
        due("a lie to 0 weighs 4, to 2 weighs 2", x.lies(0, 1), 1);
        x.deed(0, 5, 2, 0, NONE);
        due("7 and 4 are too heavy, 7 and 2 aren't", x.lies(0, 1), 4);
        AgainstFeather y = ruled("sticks 3*laid-shown;lie 2;");
        y.heart(9);
        y.heart(9);
        y.deed(0, 1, 3, 0, NONE);
        y.deed(0, 1, 3, 0, NONE);
        y.judge(2);
        y.judge(2);
        // 3 from 0 by 3, 6 from 0 by 6, 8 from 0 by 6: 8, then 10 from 8 by 0 (-2): too heavy
        due("one lie", y.lies(0, 1), 1);
        due("two lies", y.lies(0, 0), NONE);
        y.lend(1, 0, 1);
        // begun: 1 from 0 by 0; 4 from 1 by 2; 7 from 4 by 2: 9 from 7 by 0: 9
        due("as lent now", y.lies(0, 1), 1);
        y.lend(1, 0, 2);
        due("10 are too heavy", y.lies(0, 1), NONE);
        due("nothing has changed", x.about(8), 0);
    }

    // ---- 32, 33: lending

    private static void lendings() {
        AgainstFeather x = new AgainstFeather();
        promise = 32;
        due("nobody", x.lending(NONE, 77), 1);
        due("none such", x.lending(0, 1), NONE);
        promise = 33;
        due("nobody", x.whoCannot(), NONE);
        // 0 lacks 5, 1 lacks 4; 2 may take 6, 3 may take 9
        x = hearts(0, 0, 6, 9, 0);
        x.deed(0, 0, 5, 0, NONE);
        x.deed(1, 0, 4, 0, NONE);
        due("no bonds", x.whoCannot(), 1);
        promise = 32;
        due("no bonds", x.lending(NONE, 0), 0);
        due("no bonds", x.lending(0, 2), NONE);
        x.bond(0, 2, 9);
        x.bond(0, 3, 3);
        x.bond(1, 2, 3);
        x.bond(1, 3, 2);
        // 0 to 2: 2 at least (3 takes 3); 0 to 3: 3; 1 to 2: 2 at least; 1 to 3: 2
        due("all pass", x.lending(NONE, -5), 1);
        due("0 to 2", x.lending(0, 2), 2);
        due("0 to 3", x.lending(0, 3), 3);
        due("1 to 2", x.lending(1, 2), 2);
        due("1 to 3", x.lending(1, 3), 2);
        due("0 to 1", x.lending(0, 1), 0);
        due("0 to 4", x.lending(0, 4), 0);
        due("2 to 0", x.lending(2, 0), 0);
        due("itself", x.lending(0, 0), NONE);
        due("none such", x.lending(0, 5), NONE);
        due("none such", x.lending(5, 0), NONE);
        due("none such", x.lending(0, -1), NONE);
        for (int f : FAR) {
            due("lending", x.lending(f, 2), NONE);
            due("lending", x.lending(0, f), NONE);
        }
        promise = 33;
        due("all can", x.whoCannot(), NONE);
        x.bond(1, 2, 1);
        due("1 can't", x.whoCannot(), 2);
        x.bond(1, 2, 3);
        x.bond(1, 3, 0);
        due("1 can't", x.whoCannot(), 2);
        x.bond(1, 2, 99);
        due("1 can, both can", x.whoCannot(), NONE);
        // 2 takes 2 of 0 and 4 of 1: its all
        promise = 32;
        due("0 to 2", x.lending(0, 2), 2);
        due("1 to 2", x.lending(1, 2), 4);
        x.bond(0, 3, 2);
        due("7 of both are more than 2 takes", x.lending(NONE, 0), 0);
        promise = 33;
        due("both together can't", x.whoCannot(), 3);
        x.lend(0, 1, 9);
        due("lent isn't asked", x.whoCannot(), 3);
    }

    // ---- 34: kindness

    private static void kindnesses() {
        promise = 34;
        AgainstFeather x = hearts(1, 2, 3, 4);
        due("no deeds", x.kindness(1), NONE);
        for (int i = 0; i < 4; i++) x.deed(i, 0, 0, 0, NONE);
        due("nobody remembers", x.kindness(1), NONE);
        x.witness(0, 15);
        x.witness(1, 12);
        x.witness(2, 11);
        x.witness(3, 8);
        due("its own heart isn't asked", x.kindness(1), 2);
        due("one for two", x.kindness(3), 4);
        due("one for three", x.kindness(7), 8);
        due("its own heart alone", x.kindness(8), NONE);
        due("of like ones the lowest", x.kindness(4), 1);
        due("an empty set", x.kindness(0), NONE);
        due("not told", x.kindness(16), NONE);
        due("-1", x.kindness(-1), NONE);
        for (int f : FAR) due("kindness", x.kindness(f), NONE);
        x.witness(2, 3);
        due("two for three", x.kindness(7), 5);
    }

    // ---- 35 to 38: laws that fit

    private static void laws() {
        promise = 35;
        AgainstFeather x = hearts(1, 2);
        due("-10000", x.known(0, -10000), -2);
        due("10000", x.known(0, 10000), -2);
        due("none such", x.known(2, 0), -2);
        due("none such", x.known(-2, 0), -2);
        for (int f : FAR) {
            due("known", x.known(f, 0), -2);
            if (f != -2) due("known", x.known(0, f), -2);
        }
        for (int i = 1; i <= 8; i++) due("known", x.known(i % 2, i == 1 ? -9999 : 9999), i);
        due("a ninth", x.known(0, 0), -2);
        due("known", x.about(9), 8);
        due("none any more", x.known(NONE, 12345), 0);
        due("known", x.about(9), 0);

        promise = 36;
        x = hearts(1, 2);
        due("no texts", x.fit(), 0);
        x.deed(0, 3, 5, 1, NONE);
        x.deed(1, 2, 4, 0, NONE);
        x.deed(1, 9, 1, 6, 0);
        read(x, "up 1;");
        read(x, "weight size+seen;");
        read(x, "weight size+bid*seen;");
        read(x, "weight 5;");
        due("nothing known", x.fit(), 15);
        x.known(0, 5);
        due("5", x.fit(), 13);
        x.known(1, 5);
        due("5 and 5", x.fit(), 5);
        x.by(3);
        due("whoever rules", x.fit(), 5);
        x.known(0, 6);
        due("it can't be both", x.fit(), 0);

        promise = 37;
        x = hearts(1, 2);
        for (int i = 0; i < 4; i++) due("nothing known", x.smallest(i), 0);
        due("others", x.smallest(4), -100);
        due("others", x.smallest(-1), -100);
        for (int f : FAR) due("others", x.smallest(f), -100);
        x.deed(0, 0, 2, 1, NONE);
        x.deed(1, 0, 0, 6, NONE);
        x.known(0, 2);
        // 2 a + b = 2: a 1; then c + d = -1
        due("a", x.smallest(0), 1);
        due("b", x.smallest(1), 0);
        x.known(1, -1);
        due("c", x.smallest(2), -1);
        due("d", x.smallest(3), 0);
        x.known(0, 3);
        due("it can't be both", x.smallest(0), -100);
        x.known(NONE, 0);
        x.known(0, 1);
        // 2 a + b = 1: 0 1 and 1 -1: the smaller sizes
        due("a", x.smallest(0), 0);
        due("b", x.smallest(1), 1);
        x.known(NONE, 0);
        x.known(1, 6);
        due("c", x.smallest(2), 3);
        due("d", x.smallest(3), 3);
        x.known(NONE, 0);
        x.known(1, 7);
        due("3 at most", x.smallest(0), -100);
        x.known(NONE, 0);
        x.known(0, -9);
        due("3 at least", x.smallest(0), -3);
        due("3 at least", x.smallest(1), -3);

        promise = 38;
        x = hearts(1, 2);
        due("no deeds", x.tells(), NONE);
        x.deed(0, 0, 2, 1, NONE);
        x.deed(0, 4, 4, 0, NONE);
        x.deed(1, 3, 2, 2, NONE);
        due("no texts", x.tells(), NONE);
        read(x, "weight size;");
        due("one text", x.tells(), 0);
        read(x, "weight size+repaid;");
        due("only 2 tells", x.tells(), 2);
        read(x, "weight kind;");
        // 0: 2 2 0; 1: 4 4 4; 2: 2 3 3
        due("of like ones the lowest", x.tells(), 0);
        read(x, "weight kind+repaid;");
        // 0: 2 2 0 0; 1: 4 4 4 4; 2: 2 3 3 4
        due("two alike of four", x.tells(), 0);
        x.known(1, 3);
        due("fit", x.fit(), 6);
        // of 1 and 2: 0: 2 0
        due("of those that fit", x.tells(), 0);
        x.known(1, 9);
        due("none fits", x.tells(), NONE);
    }

    // ---- 39, 40: feathers

    private static void feathers() {
        promise = 39;
        AgainstFeather x = hearts(1, 2, 3);
        due("should", x.should(5), true);
        due("should", x.about(10), 5);
        due("not told", x.should(8), false);
        due("-1", x.should(-1), false);
        for (int f : FAR) due("should", x.should(f), false);
        due("should", x.about(10), 5);
        due("none", x.should(0), true);
        due("should", x.about(10), 0);

        promise = 40;
        x.deed(0, 0, 5, 0, NONE);
        x.deed(1, 0, 9, 0, NONE);
        x.deed(2, 0, 7, 0, NONE);
        due("none should", x.featherForAll(false), 0);
        due("none is judged otherwise", x.featherForAll(true), 0);
        x.should(7);
        due("all should", x.featherForAll(false), 9);
        due("none is judged otherwise", x.featherForAll(true), 0);
        x.should(5);
        due("0 and 2 should", x.featherForAll(false), 7);
        x.should(2);
        due("1 alone should", x.featherForAll(false), 0);
        due("one is judged otherwise", x.featherForAll(true), 1);
        x.should(3);
        due("0 and 1 should", x.featherForAll(false), 5);
        due("one is judged otherwise", x.featherForAll(true), 1);
        read(x, "weight 999;");
        x.by(0);
        due("999", x.featherForAll(false), 999);
        x.deed(0, 0, 5, 0, NONE);
        x.should(1);
        due("1998 are above any", x.featherForAll(true), 1);
        due("1998 are above any", x.featherForAll(false), 0);
    }

    // ---- 41, 42: scales that err

    private static void erring() {
        AgainstFeather x = new AgainstFeather();
        promise = 41;
        due("never errs", x.odds(0, 15, false), 1);
        due("never errs", x.odds(0, 15, true), 1);
        due("always errs", x.odds(10, 15, false), 0);
        due("always errs", x.odds(10, 15, true), 1);
        due("one in two", x.odds(5, 15, false), 1);
        due("one in two", x.odds(5, 15, true), 2);
        // 9^3 + 3 * 9^2 = 972 of 1000
        due("one in ten", x.odds(1, 3, false), 243);
        due("one in ten", x.odds(1, 3, true), 250);
        // 999966375112032 of 10 to the 15
        due("one in ten, 15", x.odds(1, 15, false), 31248949222251L);
        due("one in ten, 15", x.odds(1, 15, true), 31250000000000L);
        for (int n : new int[] {-1, 0, 2, 4, 14, 16, 17}) due("odds of " + n, x.odds(1, n, false), NONE);
        due("e", x.odds(-1, 1, true), NONE);
        due("e", x.odds(11, 1, true), NONE);
        for (int f : FAR) {
            due("odds", x.odds(f, 1, true), NONE);
            due("odds", x.odds(1, f, true), NONE);
        }
        due("n", x.odds(1, Integer.MIN_VALUE + 1, true), NONE);

        promise = 42;
        due("never errs", x.often(0, 100), 1);
        due("one in ten", x.often(1, 90), 1);
        due("one in ten", x.often(1, 91), 3);
        due("97.2", x.often(1, 97), 3);
        due("97.2", x.often(1, 98), 5);
        due("never", x.often(1, 100), NONE);
        due("one in two", x.often(5, 50), 1);
        due("never errs", x.often(0, 1), 1);
        // 77.1 by 13, 78.6 by 15
        due("four in ten", x.often(4, 77), 13);
        due("four in ten", x.often(4, 78), 15);
        due("four in ten", x.often(4, 79), NONE);
        due("one in two", x.often(5, 51), NONE);
        due("always errs", x.often(10, 1), NONE);
        due("q", x.often(1, 0), NONE);
        due("q", x.often(1, 101), NONE);
        due("e", x.often(-1, 1), NONE);
        due("e", x.often(11, 1), NONE);
        for (int f : FAR) {
            due("often", x.often(f, 1), NONE);
            due("often", x.often(1, f), NONE);
        }
    }

    // ---- 43 to 45: the image

    private static void images() {
        promise = 43;
        AgainstFeather x = hearts(3, 20);
        x.deed(0, 1, 9, 1, 1);
        x.judge(2);
        x.stick(0);
        x.bond(0, 1, 9);
        x.witness(0, 2);
        read(x, "weight size+2;sticks 0;");
        x.by(0);
        x.known(0, 11);
        x.should(2);
        x.lend(1, 0, 2);
        x.day(5, 3);
        x.weigh(0);
        x.lay(0);
        int ill = x.about(4);
        feedAll(x, "end");
        due("image", x.image(), ill);
        int[] about = new int[12];
        for (int i = 0; i < 12; i++) about[i] = x.about(i);
        for (int round = 0; round < 2; round++) {
            x.answer(0, false);
            x.judged();
            x.heart(5);
            x.deed(2, 2, 9, 1, 1);
            x.deed(0, 2, 9, 1, 1);
            x.judge(7);
            x.stick(9);
            x.bond(0, 1, 3);
            x.witness(0, 5);
            read(x, "weight 3;");
            x.by(1);
            x.known(NONE, 0);
            x.should(4);
            x.lend(1, 0, 9);
            x.lend(0, 2, 9);
            read(x, "heart 1000;");
            feedAll(x, "en");
            promise = 44;
            due("back", x.back(), ill);
            for (int i = 0; i < 11; i++) due("about(" + i + ")", x.about(i), about[i]);
            due("the tape stays as it was", x.about(11), 2);
            due("the latest fault stays", x.fault(0), 2);
            due("the latest fault stays", x.fault(1), 6);
            due("witnesses", x.ofDeed(0, 5), 2);
            due("weight", x.ofDeed(0, 6), 11);
            due("lent", x.ofHeart(0, 4), 2);
            due("bond", x.lending(0, 1), 8);
            due("truth", x.scale(1), 13);
            due("answered", x.scale(5), 0);
            due("fit", x.fit(), 1);
            due("written", x.book(NONE, 0), 3);
            due("undo", x.undo(), about[8] - 1);
            due("laid", x.scale(4), 0);
            x.undo();
            x.undo();
            due("x", x.about(5), 19);
            due("written", x.book(NONE, 0), 0);
        }
        x = hearts(3);
        due("back to the first image", x.back(), 0);
        due("hearts", x.about(0), 0);
        due("heart", x.heart(8), 0);
        due("bonds are as at first", x.ofHeart(0, 4), 0);

        promise = 45;
        due("about(12)", x.about(12), -2);
        due("about(-1)", x.about(-1), -2);
        for (int f : FAR) due("about", x.about(f), -2);
    }
}
