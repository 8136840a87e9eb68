/** Promises 1 to 20: what is told, read, weighed and taken back. */
final class TellSentences extends Sentences {
    static void all() {
        told();
        tape();
        byHand();
        byScript();
    }

    /** As many of everything as there can be. */
    private static AgainstFeather full() {
        AgainstFeather x = hearts(1, 2, 3, 4, 5, 6);
        add(x, 0, new int[24]);
        for (int j = 0; j < 8; j++) x.judge(1);
        for (int i = 0; i < 8; i++) x.known(1, 0);
        for (int t = 0; t < 4; t++) read(x, "heart 9;");
        feedAll(x, "heart 7;");
        return x;
    }

    private static void told() {
        promise(1);
        sentence("No HEARTS;", () -> {
            AgainstFeather x = new AgainstFeather();
            int[] first = {0, 0, 0, 1, 0, 19, 0, NONE, 0, 0, 0, 0};
            for (int i = 0; i < 12; i++) due("about(" + i + ")", x.about(i), first[i]);
            due("heart 0", x.ofHeart(0, 0), NOT_SUCH);
            due("written down", x.book(NONE, 0), 0);
            due("no weighing", x.scale(0), NOT_SUCH);
            due("nothing to take back", x.undo(), NONE);
            due("no fault", x.fault(0), NONE);
        });
        sentence("THE IMAGE is this.", () -> {
            AgainstFeather x = rich();
            AgainstFeather never = new AgainstFeather();
            AgainstFeather y = hearts(3, 4);
            add(y, 1, 5);
            y.judge(3);
            y.stick(7);
            y.lend(0, 1, 3);
            y.day(5, 3);
            y.weigh(1);
            y.known(1, 5);
            y.should(2);
            y.bond(0, 1, 4);
            due("back", y.back(), 0);
            same("going back to it", y, never);
            x.back();
            due("another one was made", x.about(0), 3);
            AgainstFeather two = new AgainstFeather();
            due("of each object its own", two.heart(5), 0);
        });

        promise(2);
        sentence("A HEART: its number.", () -> {
            AgainstFeather x = new AgainstFeather();
            for (int i = 0; i < 6; i++) {
                due("heart", x.heart(10 * i), i);
                due("hearts", x.about(0), i + 1);
            }
            for (int i = 0; i < 6; i++) due("feather", x.ofHeart(i, 0), 10 * i);
            due("no step", x.about(8), 0);
        });
        sentence("NONE for others, or if there are 6.", () -> {
            for (int f : FAR) refused("heart(" + f + ")", NONE, x -> x.heart(f));
            refused("heart(-1)", NONE, x -> x.heart(-1));
            refused("heart(1000)", NONE, x -> x.heart(1000));
            refused(TellSentences::full, "a seventh", NONE, x -> x.heart(5));
        });

        promise(3);
        sentence("A DEED (marks: 1 SEEN, 2 REPAID, 4 OUT OF FEAR, together; bid NONE or another HEART): its number.", () -> {
            AgainstFeather x = ruled("weight seen+repaid*10+fear*100+bid*500;", 1, 2);
            int[] weights = {0, 1, 10, 11, 100, 101, 110, 111};
            for (int marks = 0; marks < 8; marks++) {
                due("deed", x.deed(0, 1, 0, marks, NONE), marks * 2);
                due("bid", x.deed(0, 1, 0, marks, 1), marks * 2 + 1);
                due("marks", x.ofDeed(marks * 2, 3), marks);
                due("weight", x.ofDeed(marks * 2, 6), weights[marks]);
                due("weight of one that was bid", x.ofDeed(marks * 2 + 1, 6), weights[marks] + 500);
            }
            due("no step", x.about(8), 0);
        });
        sentence("NONE for others, or if there are 24.", () -> {
            for (int f : FAR) {
                refused("heart " + f, NONE, x -> x.deed(f, 1, 1, 0, NONE));
                refused("kind " + f, NONE, x -> x.deed(0, f, 1, 0, NONE));
                refused("size " + f, NONE, x -> x.deed(0, 1, f, 0, NONE));
                refused("marks " + f, NONE, x -> x.deed(0, 1, 1, f, NONE));
                refused("bid " + f, NONE, x -> x.deed(0, 1, 1, 0, f));
            }
            refused("heart -1", NONE, x -> x.deed(-1, 1, 1, 0, NONE));
            refused("heart 3 of 3", NONE, x -> x.deed(3, 1, 1, 0, NONE));
            refused("kind -1", NONE, x -> x.deed(0, -1, 1, 0, NONE));
            refused("kind 10", NONE, x -> x.deed(0, 10, 1, 0, NONE));
            refused("size -1", NONE, x -> x.deed(0, 1, -1, 0, NONE));
            refused("size 100", NONE, x -> x.deed(0, 1, 100, 0, NONE));
            refused("marks -1", NONE, x -> x.deed(0, 1, 1, -1, NONE));
            refused("marks 8", NONE, x -> x.deed(0, 1, 1, 8, NONE));
            refused("bid by itself", NONE, x -> x.deed(0, 1, 1, 0, 0));
            refused("bid 3 of 3", NONE, x -> x.deed(0, 1, 1, 0, 3));
            refused(TellSentences::full, "a 25th", NONE, x -> x.deed(0, 1, 1, 0, NONE));
        });

        promise(4);
        sentence("WITNESSES of a DEED (bits of HEARTS told): true.", () -> {
            AgainstFeather x = hearts(1, 2, 3, 4, 5, 6);
            add(x, 2, new int[24]);
            due("all", x.witness(0, 63), true);
            due("they are", x.ofDeed(0, 5), 63);
            due("others instead", x.witness(0, 33), true);
            due("they are", x.ofDeed(0, 5), 33);
            due("none", x.witness(0, 0), true);
            due("they are", x.ofDeed(0, 5), 0);
            due("its own heart", x.witness(0, 4), true);
            due("it is", x.ofDeed(0, 5), 4);
            due("the last deed", x.witness(23, 1), true);
            due("it is", x.ofDeed(23, 5), 1);
            due("no step", x.about(8), 0);
        });
        sentence("False for others.", () -> {
            for (int f : FAR) {
                refused("deed " + f, x -> x.witness(f, 1));
                refused("hearts " + f, x -> x.witness(0, f));
            }
            refused("deed -1", x -> x.witness(-1, 1));
            refused("deed 3 of 3", x -> x.witness(3, 1));
            refused("hearts -1", x -> x.witness(0, -1));
            refused("heart 3 of 3", x -> x.witness(0, 8));
            refused("heart 3 of 3 with others", x -> x.witness(0, 15));
            refused(TellSentences::full, "heart 6", x -> x.witness(0, 64));
            refused(TellSentences::full, "deed 24", x -> x.witness(24, 1));
        });

        promise(5);
        sentence("A JUDGE (bits of KINDS): the number.", () -> {
            AgainstFeather x = hearts(1);
            int[] kinds = {1, 2, 512, 1023, 513, 1022, 511, 64};
            for (int j = 0; j < 8; j++) {
                due("judge", x.judge(kinds[j]), j);
                due("judges", x.about(2), j + 1);
            }
            x.deed(0, 9, 1, 0, NONE);
            for (int j = 0; j < 8; j++) due("judge " + j, x.isSo(j, 0), kinds[j] >> 9);
            due("no step", x.about(8), 0);
        });
        sentence("NONE for others (an empty set), or if there are 8.", () -> {
            for (int f : FAR) refused("judge(" + f + ")", NONE, x -> x.judge(f));
            refused("an empty set", NONE, x -> x.judge(0));
            refused("-1", NONE, x -> x.judge(-1));
            refused("1024", NONE, x -> x.judge(1024));
            refused("1025", NONE, x -> x.judge(1025));
            refused(TellSentences::full, "a ninth", NONE, x -> x.judge(1));
        });

        promise(6);
        sentence("STICK: true.", () -> {
            AgainstFeather x = new AgainstFeather();
            for (int grains : new int[] {0, 99, 1, 50, 50}) {
                due("stick(" + grains + ")", x.stick(grains), true);
                due("stick", x.about(3), grains);
            }
            due("no step", x.about(8), 0);
        });
        sentence("False for others.", () -> {
            for (int f : FAR) refused("stick(" + f + ")", x -> x.stick(f));
            refused("-1", x -> x.stick(-1));
            refused("100", x -> x.stick(100));
        });

        promise(7);
        sentence("A BOND: true.", () -> {
            AgainstFeather x = hearts(0, 50);
            add(x, 0, 7);
            due("7", x.bond(0, 1, 7), true);
            due("it suffices", x.lending(0, 1), 7);
            due("the same once more", x.bond(0, 1, 7), true);
            due("0", x.bond(0, 1, 0), true);
            due("it doesn't", x.lending(0, 1), NONE);
            due("99", x.bond(0, 1, 99), true);
            due("it suffices", x.lending(0, 1), 7);
            due("no step", x.about(8), 0);
        });
        sentence("False for others.", () -> {
            for (int f : FAR) {
                refused("from " + f, x -> x.bond(f, 1, 1));
                refused("to " + f, x -> x.bond(0, f, 1));
                refused("most " + f, x -> x.bond(0, 1, f));
            }
            refused("from -1", x -> x.bond(-1, 1, 1));
            refused("to -1", x -> x.bond(0, -1, 1));
            refused("from 3 of 3", x -> x.bond(3, 1, 1));
            refused("to 3 of 3", x -> x.bond(0, 3, 1));
            refused("to itself", x -> x.bond(0, 0, 1));
            refused("-1", x -> x.bond(0, 1, -1));
            refused("100", x -> x.bond(0, 1, 100));
        });
    }

    /** Twenty bytes of the text from a place on, by feed. */
    private static int feed(AgainstFeather x, String text, int at) {
        int[] fours = new int[5];
        for (int i = 0; i < 20; i++) fours[i / 4] = fours[i / 4] << 8 | text.charAt(at + i) & 255;
        return x.feed(fours[0], fours[1], fours[2], fours[3], fours[4]);
    }

    private static AgainstFeather taped(int bytes) {
        AgainstFeather x = new AgainstFeather();
        for (int i = 0; i < 15; i++) x.feed(0x20202020, 0x20202020, 0x20202020, 0x20202020, 0x20202020);
        x.end(bytes);
        return x;
    }

    private static void tape() {
        promise(8);
        sentence("Twenty bytes come behind the tape, the highest of a first: how many it has.", () -> {
            // each byte has its place: the fault is at the one that is wrong
            String text = "heart 12;heart 34;  heart 56;heart 789; ";
            AgainstFeather x = new AgainstFeather();
            due("20", feed(x, text, 0), 20);
            due("40", feed(x, text, 20), 40);
            due("text", x.text(), 0);
            due("played", x.played(0), NONE);
            int[] feathers = {12, 34, 56, 789};
            for (int i = 0; i < 4; i++) due("feather", x.ofHeart(i, 0), feathers[i]);
            for (int place = 0; place < 20; place++) {
                AgainstFeather y = new AgainstFeather();
                due("20", feed(y, " ".repeat(place) + (char) 200 + " ".repeat(19 - place), 0), 20);
                y.text();
                due("the place of byte " + place, y.fault(1), place);
            }
            AgainstFeather z = taped(7);
            due("27", z.feed(0x3b202020, 0, 0, 0, 0), 27);
            z.text();
            due("behind what there was", z.fault(1), 7);
        });
        sentence("NONE, and none come, if there would be more than 300.", () -> {
            AgainstFeather x = new AgainstFeather();
            for (int i = 1; i <= 15; i++) due("feed", x.feed(0, 0, 0, 0, 0), 20 * i);
            due("bytes", x.about(11), 300);
            due("280 and 20", taped(280).feed(1, 2, 3, 4, 5), 300);
            for (int bytes : new int[] {281, 282, 290, 299, 300}) {
                refused(() -> taped(bytes), bytes + " and 20", NONE, y -> y.feed(1, 2, 3, 4, 5));
            }
        });

        promise(9);
        sentence("The tape has its first n bytes alone: n.", () -> {
            AgainstFeather x = new AgainstFeather();
            due("0 of 0", x.end(0), 0);
            feed(x, "heart 9;heart 8;foo;", 0);
            due("20 of 20", x.end(20), 20);
            due("16", x.end(16), 16);
            due("bytes", x.about(11), 16);
            due("text", x.text(), 0);
            due("played", x.played(0), NONE);
            due("the first ones", x.ofHeart(1, 0), 8);
            feed(x, "heart 7;heart 6;foo;", 0);
            due("0", x.end(0), 0);
            due("bytes", x.about(11), 0);
            due("an empty text", x.text(), 1);
            due("300 of 300", taped(300).end(300), 300);
            AgainstFeather word = new AgainstFeather();
            feed(word, "up deeds;           ", 0);
            word.end(7);
            due("a word that is cut", word.text(), NONE);
            due("a word that is cut", word.fault(1), 3);
            AgainstFeather number = new AgainstFeather();
            feed(number, "heart 1000;         ", 0);
            number.end(9);
            due("a number that is cut", number.text(), NONE);
            due("a number that is cut", number.fault(0), 1);
            due("a number that is cut", number.fault(1), 9);
        });
        sentence("NONE, and nothing is done, if it has not so many, or n is below 0.", () -> {
            for (int f : FAR) refused("end(" + f + ")", NONE, x -> x.end(f));
            refused("9 of 8", NONE, x -> x.end(9));
            refused("-1", NONE, x -> x.end(-1));
            refused(AgainstFeather::new, "1 of 0", NONE, x -> x.end(1));
            refused(() -> taped(300), "301 of 300", NONE, x -> x.end(301));
            refused(() -> taped(5), "what it had once", NONE, x -> x.end(6));
        });

        promise(10);
        sentence("The tape (empty then) is a TEXT: its number.", () -> {
            AgainstFeather x = new AgainstFeather();
            for (int i = 0; i < 4; i++) {
                feedAll(x, "heart " + i + ";");
                due("bytes", x.about(11), 8);
                due("text", x.text(), i);
                due("bytes then", x.about(11), 0);
                due("texts", x.about(6), i + 1);
                due("fault", x.fault(0), 0);
            }
            due("the last one's", x.played(3), NONE);
            due("feather", x.ofHeart(0, 0), 3);
            due("an empty tape", new AgainstFeather().text(), 0);
        });
        sentence("NONE: it has a FAULT;", () -> {
            AgainstFeather x = new AgainstFeather();
            due("a good one", read(x, "heart 5;"), 0);
            feedAll(x, "heart 5");
            due("a faulty one", x.text(), NONE);
            due("texts", x.about(6), 1);
            due("it isn't one", x.played(1), -2);
            due("the tape is empty then", x.about(11), 0);
            due("the next one", read(x, "heart 6;"), 1);
        });
        sentence("or (the tape stays) there are 4.", () -> {
            refused(TellSentences::full, "a fifth", NONE, AgainstFeather::text);
            AgainstFeather x = full();
            due("a fifth", x.text(), NONE);
            due("the tape stays", x.about(11), 8);
            due("texts", x.about(6), 4);
            feedAll(x, "foo");
            due("a faulty fifth", x.text(), NONE);
            due("the tape stays", x.about(11), 3);
            due("nothing was read", x.fault(0), 0);
            due("nothing was read", x.fault(1), NONE);
            x.back();
            feedAll(x, "heart 5;");
            due("fewer are there again", x.text(), 0);
        });

        promise(11);
        sentence("Of the latest text that was read: 0 its FAULT (0 without), 1 its place (NONE without).", () -> {
            AgainstFeather x = new AgainstFeather();
            read(x, "heart 1000;");
            due("fault", x.fault(0), 2);
            due("place", x.fault(1), 6);
            read(x, "foo;");
            due("the latest", x.fault(0), 1);
            due("at 0", x.fault(1), 0);
            read(x, "end;");
            due("without", x.fault(0), 0);
            due("without", x.fault(1), NONE);
            feedAll(x, "foo;");
            due("not read yet", x.fault(0), 0);
        });
        sentence("NONE for others, and ahead of any.", () -> {
            due("ahead of any", new AgainstFeather().fault(0), NONE);
            due("ahead of any", new AgainstFeather().fault(1), NONE);
            for (int f : FAR) refused("fault(" + f + ")", NONE, x -> x.fault(f));
            refused("fault(-1)", NONE, x -> x.fault(-1));
            refused("fault(2)", NONE, x -> x.fault(2));
        });

        promise(12);
        sentence("THE TEXT (NONE: none): true.", () -> {
            AgainstFeather x = deeds(9, 5);
            due("none", x.by(NONE), true);
            for (int i = 0; i < 4; i++) read(x, "weight " + i + ";");
            due("not told yet", x.ofDeed(0, 6), 5);
            for (int i = 0; i < 4; i++) {
                due("by(" + i + ")", x.by(i), true);
                due("it is", x.about(7), i);
                due("it rules", x.ofDeed(0, 6), i);
            }
            due("none", x.by(NONE), true);
            due("it is", x.about(7), NONE);
            due("none rules", x.ofDeed(0, 6), 5);
            due("no step", x.about(8), 0);
        });
        sentence("False for others.", () -> {
            for (int f : FAR) refused("by(" + f + ")", x -> x.by(f));
            refused("1 of 1", x -> x.by(1));
            refused(TellSentences::full, "4 of 4", x -> x.by(4));
            refused(AgainstFeather::new, "0 of 0", x -> x.by(0));
        });
    }

    private static void byHand() {
        promise(13);
        sentence("LENT: true.", () -> {
            AgainstFeather x = hearts(1, 2, 3, 4, 5, 6);
            due("0 to 5", x.lend(0, 5, 99), true);
            due("5 to 0", x.lend(5, 0, 1), true);
            due("lent", x.ofHeart(0, 15), 99);
            due("lent", x.ofHeart(5, 10), 1);
            due("0", x.lend(0, 5, 0), true);
            due("lent", x.ofHeart(0, 15), 0);
            due("steps", x.about(8), 3);
            AgainstFeather y = hearts(1, 2);
            y.weigh(1);
            y.lend(0, 1, 50);
            due("a weighing that goes on isn't asked", y.scale(1), 0);
            due("nor does it settle", y.scale(2), 0);
        });
        sentence("False for others, and if it is so.", () -> {
            for (int f : FAR) {
                refused("from " + f, x -> x.lend(f, 1, 5));
                refused("to " + f, x -> x.lend(0, f, 5));
                refused("weight " + f, x -> x.lend(0, 1, f));
            }
            refused("from -1", x -> x.lend(-1, 1, 5));
            refused("to -1", x -> x.lend(0, -1, 5));
            refused("from 3 of 3", x -> x.lend(3, 1, 5));
            refused("to 3 of 3", x -> x.lend(0, 3, 5));
            refused("to itself", x -> x.lend(1, 1, 5));
            refused("-1", x -> x.lend(0, 1, -1));
            refused("100", x -> x.lend(0, 1, 100));
            refused("0 are lent at first", x -> x.lend(0, 1, 0));
            refused("6 are lent", x -> x.lend(1, 0, 6));
        });

        promise(14);
        sentence("WEIGHED (another WEIGHING is gone): SHOWN.", () -> {
            AgainstFeather x = hearts(5, 6);
            add(x, 0, 9);
            x.lend(0, 1, 4);
            due("-4", x.weigh(0), -4);
            x.lay(0);
            due("4", x.weigh(1), 4);
            due("another one", x.scale(0), 1);
            due("nothing is laid", x.scale(4), 0);
            due("the other one isn't judged", x.book(NONE, 0), 0);
            due("steps", x.about(8), 4);
            x.stick(4);
            due("4 aren't more than 4 apart", x.weigh(1), 0);
            due("anew", x.about(8), 5);
        });
        sentence("-100000 for others.", () -> {
            for (int f : FAR) refused("weigh(" + f + ")", NOT_SUCH, x -> x.weigh(f));
            refused("weigh(-1)", NOT_SUCH, x -> x.weigh(-1));
            refused("3 of 3", NOT_SUCH, x -> x.weigh(3));
            refused(AgainstFeather::new, "0 of 0", NOT_SUCH, x -> x.weigh(0));
        });

        promise(15);
        sentence("LAID: SHOWN.", () -> {
            AgainstFeather x = deeds(50, 5, 6, 7);
            x.stick(6);
            x.weigh(0);
            due("13 are more than 6 apart", x.lay(2), 7);
            due("6 more aren't", x.lay(1), 7);
            due("11 more are", x.lay(0), 18);
            due("steps", x.about(8), 4);
            AgainstFeather all = rule(deeds(50, new int[24]), "weight 1;sticks 0;");
            all.weigh(0);
            for (int d = 23; d >= 0; d--) due("all 24", all.lay(d), 24 - d);
        });
        sentence("-100000, if it can't be.", () -> {
            for (int f : FAR) refused("lay(" + f + ")", NOT_SUCH, x -> x.lay(f));
            refused("lay(-1)", NOT_SUCH, x -> x.lay(-1));
            refused("another's", NOT_SUCH, x -> x.lay(1));
            refused("laid already", NOT_SUCH, x -> x.lay(2));
            refused("3 of 3", NOT_SUCH, x -> x.lay(3));
            refused(() -> deeds(5, 5), "no weighing", NOT_SUCH, x -> x.lay(0));
            refused(() -> {
                AgainstFeather x = deeds(5, 5);
                x.weigh(0);
                x.judged();
                return x;
            }, "no weighing any more", NOT_SUCH, x -> x.lay(0));
        });

        promise(16);
        sentence("ANSWERED: 1 it was a LIE, 0 not.", () -> {
            AgainstFeather x = deeds(50, 5);
            for (int j = 0; j < 8; j++) x.judge(j % 2 + 1);
            x.weigh(0);
            due("so, yes", x.answer(0, true), 0);
            due("not so, no", x.answer(1, false), 0);
            due("so, no", x.answer(2, false), 1);
            due("not so, yes", x.answer(3, true), 1);
            due("the last judge", x.answer(7, false), 0);
            due("answered", x.scale(5), 143);
            due("lies", x.scale(3), 2);
            due("steps", x.about(8), 6);
        });
        sentence("NONE, if it can't be.", () -> {
            for (int f : FAR) {
                refused("answer(" + f + ", yes)", NONE, x -> x.answer(f, true));
                refused("answer(" + f + ", no)", NONE, x -> x.answer(f, false));
            }
            refused("answer(-1, yes)", NONE, x -> x.answer(-1, true));
            refused("2 of 2", NONE, x -> x.answer(2, true));
            refused("answered already, yes", NONE, x -> x.answer(1, true));
            refused("answered already, no", NONE, x -> x.answer(1, false));
            refused(() -> {
                AgainstFeather x = hearts(5);
                x.judge(1);
                return x;
            }, "no weighing", NONE, x -> x.answer(0, true));
            refused(() -> {
                AgainstFeather x = hearts(5);
                x.judge(1);
                x.weigh(0);
                x.judged();
                return x;
            }, "no weighing any more", NONE, x -> x.answer(0, true));
        });

        promise(17);
        sentence("JUDGED: which (0, 1, 2).", () -> {
            int[] feathers = {8, 9, 59, 60};
            int[] which = {0, 1, 1, 2};
            for (int i = 0; i < 4; i++) {
                AgainstFeather x = deeds(feathers[i], 9);
                x.weigh(0);
                x.lay(0);
                due("9 against " + feathers[i], x.judged(), which[i]);
                due("written down", x.book(0, 4), which[i]);
                due("steps", x.about(8), 3);
            }
        });
        sentence("NONE without a WEIGHING.", () -> {
            refused(() -> deeds(5, 5), "none yet", NONE, AgainstFeather::judged);
            refused(() -> {
                AgainstFeather x = deeds(5, 5);
                x.weigh(0);
                x.judged();
                return x;
            }, "none any more", NONE, AgainstFeather::judged);
            refused(() -> {
                AgainstFeather x = deeds(5, 5);
                x.weigh(0);
                x.day(0, 1);
                return x;
            }, "none behind a day", NONE, AgainstFeather::judged);
        });
    }

    private static void byScript() {
        promise(18);
        sentence("PLAYED by a TEXT: NONE: all is done; else the number of the CLAUSE that can't be.", () -> {
            AgainstFeather x = new AgainstFeather();
            due("nothing is to do", play(x, ""), NONE);
            due("laws alone", play(x, "weight 1;up 1;"), NONE);
            due("one heart", play(x, "heart 5;"), NONE);
            due("and once more", x.played(2), NONE);
            due("hearts", x.about(0), 2);
            due("the second clause", play(x, "up 2;weigh 2;"), 1);
            AgainstFeather y = new AgainstFeather();
            due("the first clause", play(y, "end;heart 5;"), 0);
            due("nothing more is done", y.about(0), 0);
        });
        sentence("-2 for others.", () -> {
            for (int f : FAR) refused("played(" + f + ")", -2, x -> x.played(f));
            refused("played(-1)", -2, x -> x.played(-1));
            refused("1 of 1", -2, x -> x.played(1));
            refused(AgainstFeather::new, "0 of 0", -2, x -> x.played(0));
            refused(TellSentences::full, "4 of 4", -2, x -> x.played(4));
        });

        promise(19);
        sentence("A DAY: how many were HEAVY.", () -> {
            due("all of 20", deeds(4, 5).day(9, 20), 20);
            due("none of 20, they pass", deeds(5, 5).day(9, 20), 0);
            due("none of 20, they go up", deeds(56, 5).day(9, 20), 0);
            due("one of 1", deeds(4, 5).day(0, 1), 1);
        });
        sentence("NONE for others, and without HEARTS.", () -> {
            for (int f : FAR) {
                refused("seed " + f, NONE, x -> x.day(f, 1));
                refused("n " + f, NONE, x -> x.day(1, f));
            }
            refused("seed -1", NONE, x -> x.day(-1, 1));
            refused("seed 10000", NONE, x -> x.day(10000, 1));
            refused("n 0", NONE, x -> x.day(1, 0));
            refused("n -1", NONE, x -> x.day(1, -1));
            refused("n 21", NONE, x -> x.day(1, 21));
            refused(AgainstFeather::new, "without hearts", NONE, x -> x.day(1, 1));
        });

        promise(20);
        sentence("The latest STEP is taken back: how many can be yet.", () -> {
            AgainstFeather x = deeds(5, 5);
            x.weigh(0);
            x.lay(0);
            x.judged();
            due("judged", x.undo(), 2);
            due("it goes on", x.scale(4), 1);
            due("laid", x.undo(), 1);
            due("it goes on", x.scale(4), 0);
            due("weighed", x.undo(), 0);
            due("none goes on", x.scale(4), NOT_SUCH);
            x.weigh(0);
            due("a new one", x.about(8), 1);
            due("it, too", x.undo(), 0);
        });
        sentence("NONE: there is none.", () -> {
            refused(AgainstFeather::new, "none yet", NONE, AgainstFeather::undo);
            refused(() -> deeds(5, 5), "what is told is none", NONE, AgainstFeather::undo);
            refused(() -> {
                AgainstFeather x = deeds(5, 5);
                x.weigh(0);
                x.undo();
                return x;
            }, "none any more", NONE, AgainstFeather::undo);
            refused(() -> {
                AgainstFeather x = hearts(5, 5);
                for (int i = 1; i < 32; i++) x.lend(0, 1, i);
                for (int i = 0; i < 30; i++) x.undo();
                return x;
            }, "more than 30 aren't kept", NONE, AgainstFeather::undo);
        });
    }
}
