/** Edges of what is asked apart, sentence by sentence: promises 23 to 37. */
final class QuestionEdges {
    private static final int NONE = Bench.NONE;
    private static final int HIDDEN = Bench.HIDDEN;
    private static final int TERMS = Sentences.TERMS;
    private static final int LEAST = Integer.MIN_VALUE;
    private static final int MOST = Integer.MAX_VALUE;
    // Drops: 2, 2, 2, 1, 3; the fourth is foreign.
    private static final String PLOT = "wd4;wd3;wd9r1;nf1;n;n;ns1o1;ns3";
    private static final String CHAIN = "wd30;nf1;nf2;nf3;nf2";
    private static final String FILES = "wd30;nf1;n;n;n;f;fa2b3";

    private final Sentences doc;

    QuestionEdges(Sentences doc) {
        this.doc = doc;
    }

    void go() {
        apart();
        layer();
        reach();
        best();
        faction();
        factionOut();
        silence();
        gaps();
        seen();
        gone();
        sure();
        ask();
        gameTerms();
        game();
        rests();
        oddsTerms();
        odds();
        shares();
        net();
        amnesty();
        mosts();
        most();
        known();
        quietTerms();
        quiet();
    }

    private void apart() {
        doc.says(TERMS, "(Apart, from as it is now.)");
        DrownedNames x = Bench.ministry("sc20;wd20;wd20;nf1;n;n;n;f");
        x.dip(0, 0);
        x.dip(1, 0);
        x.dip(2, 1);
        x.years(1);
        String then = Sight.ofAll(x);
        x.layer(0, 0);
        x.reach(0);
        x.faction(8, 0);
        x.silence(15);
        x.gone(1, 0);
        x.sure(1);
        x.ask(1);
        x.game(0, 1, 0, 9, 9, 0);
        x.rests(0, 1, 0, NONE);
        x.odds(0, 4);
        x.shares(0, 999);
        for (int what = -1; what <= 8; what++) {
            x.most(what);
        }
        x.known(0);
        x.quiet(9999);
        x.faction(1, 0);
        x.game(9, 9, 9, 99, 99, 9);
        x.odds(3, 9);
        doc.due("nothing changed", Sight.ofAll(x), then);
        doc.due("no status", Sight.ofStatus(x), "status 0 0 0 0 0");
        doc.due("as it is now", x.faction(8, 0), 0);
        x.dip(3, 1);
        doc.due("as it is then", x.faction(8, 0), NONE);
    }

    private void layer() {
        DrownedNames x = Bench.ministry("wd20;wd20;nf1;n;n");
        x.dip(2, 1);
        x.dip(0, 1);
        doc.says(TERMS, "LAYER i of a WELL: who lies there (0 the lowest).");
        doc.due("the lowest", x.layer(1, 0), 2);
        doc.due("the uppermost", x.layer(1, 1), 0);
        x.scratch(1, 4);
        doc.due("the lowest came up", x.layer(1, 0), 0);
        x.undo();
        doc.says(23, "LAYER.");
        doc.due("layer(1, 0)", x.layer(1, 0), 2);
        doc.due("layer(1, 1)", x.layer(1, 1), 0);
        doc.says(23, "NONE: nobody");
        for (int i : new int[] {LEAST, -1, 2, 7, MOST}) {
            doc.due("layer(1, " + i + ")", x.layer(1, i), NONE);
        }
        doc.due("an empty one", x.layer(0, 0), NONE);
        doc.says(23, "no such WELL.");
        for (int well : new int[] {LEAST, -1, 2, 4, MOST}) {
            doc.due("layer(" + well + ", 0)", x.layer(well, 0), NONE);
        }
        doc.due("no ministry", new DrownedNames().layer(0, 0), NONE);
        doc.says(TERMS, "LONG of a WELL: how many lie in it.");
        doc.due("two", x.well(1, 3), 2);
        doc.due("none", x.well(0, 3), 0);
        DrownedNames all = Bench.ministry("wd30;nf1;n;n;n;n;n;n");
        for (int name = 0; name < 7; name++) {
            all.dip(name, 0);
        }
        doc.due("seven", all.well(0, 3), 7);
        doc.due("the seventh", all.layer(0, 6), 6);
        doc.due("no eighth", all.layer(0, 7), NONE);
    }

    private void reach() {
        doc.says(TERMS, "REACH of a DROWNED one: the fewest DROPS (1 .. 9) by which he would come up.");
        DrownedNames x = Bench.ministry("wd30;ns5f1;ns4;ns1;n");
        x.dip(0, 0);
        doc.due("alone", x.reach(0), 5);
        x.dip(1, 0);
        doc.due("beneath four", x.reach(0), 9);
        doc.due("over him", x.reach(1), 4);
        x.dip(2, 0);
        doc.due("beneath five: ten", x.reach(0), NONE);
        doc.due("beneath one", x.reach(1), 5);
        doc.due("the uppermost", x.reach(2), 1);
        doc.due("by so many he comes up", x.scratch(0, 5), 1);
        doc.due("nearer then", x.reach(0), 6);
        doc.due("by fewer not", x.scratch(0, 5), 2);
        doc.says(24, "REACH.");
        doc.due("reach(0)", x.reach(0), 5);
        doc.says(24, "NONE: by none");
        DrownedNames deep = Bench.ministry("sd2;wd30;ns5f1;n");
        deep.dip(0, 0);
        doc.due("ten drops", deep.reach(0), NONE);
        doc.says(24, "he is free");
        doc.due("reach(1)", x.reach(1), NONE);
        doc.says(24, "no such NAME.");
        for (int name : new int[] {LEAST, -1, 4, 7, MOST}) {
            doc.due("reach(" + name + ")", x.reach(name), NONE);
        }
        doc.due("no ministry", new DrownedNames().reach(0), NONE);
    }

    private void best() {
        doc.says(TERMS, "BEST: the free one who could be DIPPED somewhere and would be MISSED least then");
        // Missed: 0 does not fit; 1 two and twice two; 2 one and twice one.
        DrownedNames x = Bench.ministry("wd2;ns3f1;ns2f2;ns1f1");
        doc.due("2 is missed least", x.most(0), 2);
        x.dip(2, 0);
        doc.due("a drop of room is left: nobody", x.most(0), NONE);
        x.fill(0);
        doc.due("two drops: 1", x.most(0), 1);
        DrownedNames red = Bench.ministry("wd9;wd0r1;ns5f1;ns5;ns1o1");
        doc.due("no room in red", red.most(0), 1);
        red.fill(1);
        doc.due("room in red", red.most(0), 2);
        DrownedNames known = Bench.ministry("wd9;nf1;n;ns3f1");
        known.dip(1, 0);
        doc.due("known by a drowned one, not by a free one", known.most(0), 0);
        DrownedNames above = Bench.ministry("wd9;ns1f1;ns2;ns3");
        Bench.hold(above, "y:a+5-s");
        above.dip(2, 0);
        doc.due("the longer one", above.most(0), 1);
        Bench.hold(above, "y:a=0?s;y:9-s");
        doc.due("nothing above him then", above.most(0), 0);
        doc.says(TERMS, "(of several the lowest; into the lowest WELL he can be DIPPED into).");
        doc.due("alike", Bench.ministry("w;nf1;n").most(0), 0);
        DrownedNames wells = Bench.ministry("wd1;wd9;ns1f1;ns2");
        Bench.hold(wells, "y:w=0?9;y:w=1?5;y:1");
        doc.due("9 in well 0, 5 in well 1", wells.most(0), 1);
        Bench.hold(wells, "y:w=0?3;y:w=1?5;y:1");
        doc.due("3 in well 0, 5 in well 1", wells.most(0), 0);
        Bench.hold(wells, "y:w=0?5;y:w=1?5;y:1");
        doc.due("alike", wells.most(0), 0);
    }

    private void faction() {
        doc.says(TERMS, "FACTION (bits, at least one, all free): rows of WELLS (digits by NAMES rising, the first the highest) "
                + "into which they can be DIPPED, one behind the other");
        DrownedNames x = Bench.ministry(PLOT);
        doc.due("none", x.faction(0, 0), NONE);
        doc.due("one", x.faction(1, 0), 0);
        doc.due("into red", x.faction(8, 0), 2);
        doc.due("0 and the foreign one", x.faction(9, 0), 2);
        doc.due("the foreign one and 4", x.faction(24, 0), 20);
        doc.due("0 and 4: not together", x.faction(17, 0), 1);
        doc.due("three and three drops", x.faction(7, 0), 1);
        doc.due("nine drops into seven", x.faction(23, 0), NONE);
        x.dip(1, 1);
        doc.due("not all free", x.faction(3, 0), NONE);
        doc.due("as it is now", x.faction(5, 0), 0);
        doc.due("no room now", x.faction(21, 0), NONE);
        DrownedNames seven = Bench.ministry("wd14;nf1;n;n;n;n;n;n");
        doc.due("room to the drop", seven.faction(127, 0), 0);
        DrownedNames drop = Bench.ministry("wd13;nf1;n;n;n;n;n;n");
        doc.due("a drop too few", drop.faction(127, 0), NONE);
        DrownedNames highest = Bench.ministry("w;w;w;wd14r1;nf1o1;no1;no1;no1;no1;no1;no1");
        doc.due("the highest row", highest.faction(127, 0), 3333333);
        doc.says(TERMS, "the one by which the fewest WELLS have any of these (of several the least): the row; how many WELLS.");
        DrownedNames y = Bench.ministry("wd2;wd6;wd6;nf1;n;n");
        doc.due("one well rather than a lesser row", y.faction(7, 0), 111);
        doc.due("one well", y.faction(7, 1), 1);
        doc.due("of two wells the least", y.faction(3, 0), 11);
        DrownedNames z = Bench.ministry("wd4;wd4;nf1;n;n;n");
        doc.due("of several", z.faction(15, 0), 11);
        doc.due("two wells", z.faction(15, 1), 2);
        DrownedNames four = Bench.ministry("wd2;wd2;wd2;wd2;nf1;n;n;n");
        doc.due("one in each", four.faction(15, 0), 123);
        doc.due("four wells", four.faction(15, 1), 4);
        DrownedNames other = Bench.ministry("wd9;wd9;nf1;n;n");
        other.dip(0, 1);
        doc.due("wells with others count as none", other.faction(6, 0), 0);
        doc.due("one well", other.faction(6, 1), 1);
    }

    private void factionOut() {
        DrownedNames x = Bench.ministry(PLOT);
        doc.says(25, "FACTION: the row (0), how many (1).");
        doc.due("row", x.faction(7, 0), 1);
        doc.due("how many", x.faction(7, 1), 2);
        doc.says(25, "NONE: by none");
        doc.due("row", x.faction(23, 0), NONE);
        doc.due("how many", x.faction(23, 1), NONE);
        doc.says(25, "no such set");
        x.dip(0, 0);
        for (int set : new int[] {LEAST, -1, 0, 1, 3, 31, 32, 33, 34, MOST}) {
            doc.due("faction(" + set + ", 0)", x.faction(set, 0), NONE);
            doc.due("faction(" + set + ", 1)", x.faction(set, 1), NONE);
        }
        doc.due("no ministry", new DrownedNames().faction(1, 0), NONE);
        doc.says(25, "no such what.");
        for (int what : new int[] {LEAST, -1, 2, MOST}) {
            doc.due("faction(2, " + what + ")", x.faction(2, what), NONE);
        }
    }

    private void silence() {
        doc.says(TERMS, "SILENCE of a set (bits): it, those DROWNED already and all others that must be DROWNED, too, "
                + "so that no one else KNOWS one of these: bits.");
        DrownedNames x = Bench.ministry(CHAIN);
        doc.due("nobody knows 0", x.silence(1), 1);
        doc.due("0 knows 1", x.silence(2), 3);
        doc.due("1 and 3 know 2, 0 knows 1", x.silence(4), 15);
        doc.due("2 knows 3", x.silence(8), 15);
        x.dip(1, 0);
        doc.due("those drowned already", x.silence(0), 3);
        doc.due("and the set", x.silence(1), 3);
        DrownedNames up = Bench.ministry("w;nf1;nf0;nf1;nf2;nf3;nf4;nf5");
        doc.due("one behind the other, rising", up.silence(1), 127);
        doc.due("from the middle on", up.silence(8), 120);
        DrownedNames down = Bench.ministry("w;nf1;nf2;nf3;nf4;nf5;nf6;nf5");
        doc.due("one behind the other, falling", down.silence(64), 127);
        doc.due("to the middle", down.silence(8), 15);
        doc.says(26, "SILENCE, as bits.");
        DrownedNames y = Bench.ministry(CHAIN);
        doc.due("of nobody", y.silence(0), 0);
        doc.due("of all", y.silence(15), 15);
        doc.says(26, "NONE: no MINISTRY");
        doc.due("silence(0)", new DrownedNames().silence(0), NONE);
        doc.says(26, "no such set (0 .. all).");
        for (int set : new int[] {LEAST, -1, 16, 17, 127, MOST}) {
            doc.due("silence(" + set + ")", y.silence(set), NONE);
        }
    }

    private void gaps() {
        doc.says(TERMS, "GAPS of a FILE: how many of its NAMES are DROWNED.");
        DrownedNames x = Bench.ministry(FILES);
        doc.due("none", x.file(0, 2), 0);
        x.dip(1, 0);
        doc.due("one", x.file(0, 2), 1);
        x.dip(0, 0);
        doc.due("both", x.file(0, 2), 2);
        doc.due("of the other none", x.file(1, 2), 0);
        x.blot(0);
        doc.due("one came up", x.file(0, 2), 1);
    }

    private void seen() {
        doc.says(TERMS, "SEEN (10 at most): a FILE had g (0 .. 2) GAPS.");
        DrownedNames x = Bench.ministry(FILES);
        for (int i = 1; i <= 10; i++) {
            doc.due("the " + i + ".", x.seen(i % 2, i % 3), i);
        }
        doc.due("an eleventh", x.seen(0, 1), NONE);
        doc.due("ten", x.count(10), 10);
        doc.says(27, "SEEN: how many there are.");
        DrownedNames y = Bench.ministry(FILES);
        doc.due("one", y.seen(0, 0), 1);
        doc.due("two", y.seen(1, 2), 2);
        doc.says(27, "NONE: no such FILE");
        for (int file : new int[] {LEAST, -1, 2, 6, MOST}) {
            doc.due("seen(" + file + ", 0)", y.seen(file, 0), NONE);
        }
        doc.due("no ministry", new DrownedNames().seen(0, 0), NONE);
        doc.says(27, "out of bounds");
        for (int g : new int[] {LEAST, -1, 3, MOST}) {
            doc.due("seen(0, " + g + ")", y.seen(0, g), NONE);
        }
        doc.due("still two", y.count(10), 2);
        doc.says(27, "there are ten.");
        for (int i = 3; i <= 10; i++) {
            doc.due("the " + i + ".", y.seen(0, 0), i);
        }
        doc.due("no eleventh", y.seen(0, 0), NONE);
        doc.due("it counts for nothing", y.gone(2, 0), 12);
        doc.due("no other either", y.seen(1, 0), NONE);
        doc.due("still so", y.gone(2, 0), 12);
    }

    private void gone() {
        doc.says(TERMS, "GONE for k (0 .. 7): sets of k NAMES (bits), whoever is DROWNED now, by which all SEEN is so: "
                + "how many, the i-th (rising).");
        DrownedNames x = Bench.ministry(FILES);
        int[] many = {1, 4, 6, 4, 1, 0, 0, 0};
        for (int k = 0; k < many.length; k++) {
            doc.due("gone(" + k + ", NONE)", x.gone(k, NONE), many[k]);
        }
        x.dip(0, 0);
        x.seen(0, 1);
        int[] sets = {5, 6, 9, 10};
        doc.due("one of 0 and 1, one of 2 and 3", x.gone(2, NONE), 4);
        for (int i = 0; i < sets.length; i++) {
            doc.due("gone(2, " + i + ")", x.gone(2, i), sets[i]);
        }
        x.seen(1, 0);
        doc.due("none of 2 and 3", x.gone(1, NONE), 2);
        doc.due("none of 2 and 3", x.gone(2, NONE), 0);
        DrownedNames seven = Bench.ministry("w;nf1;n;n;n;n;n;n;f");
        doc.due("all seven", seven.gone(7, 0), 127);
        doc.due("35 of three", seven.gone(3, NONE), 35);
        doc.due("the first of them", seven.gone(3, 0), 7);
        doc.due("the last of them", seven.gone(3, 34), 112);
        doc.says(28, "GONE: how many (i NONE), the i-th.");
        DrownedNames y = Bench.ministry(FILES);
        doc.due("nobody: one set", y.gone(0, NONE), 1);
        doc.due("the empty one", y.gone(0, 0), 0);
        doc.says(28, "NONE: no such one");
        doc.due("gone(0, 1)", y.gone(0, 1), NONE);
        for (int i : new int[] {LEAST, -2, 6, 128, MOST}) {
            doc.due("gone(2, " + i + ")", y.gone(2, i), NONE);
        }
        doc.due("of more than there are", y.gone(7, 0), NONE);
        doc.due("how many of them", y.gone(7, NONE), 0);
        doc.says(28, "no MINISTRY");
        doc.due("gone(0, NONE)", new DrownedNames().gone(0, NONE), NONE);
        doc.due("gone(0, 0)", new DrownedNames().gone(0, 0), NONE);
        doc.says(28, "out of bounds.");
        for (int k : new int[] {LEAST, -1, 8, MOST}) {
            doc.due("gone(" + k + ", NONE)", y.gone(k, NONE), NONE);
            doc.due("gone(" + k + ", 0)", y.gone(k, 0), NONE);
        }
    }

    private void sure() {
        doc.says(TERMS, "SURE for k: NAMES (bits) in all of these.");
        DrownedNames x = Bench.ministry(FILES);
        doc.due("of nobody", x.sure(0), 0);
        doc.due("of one", x.sure(1), 0);
        doc.due("of all", x.sure(4), 15);
        x.seen(0, 2);
        doc.due("both of the file", x.sure(2), 3);
        doc.due("and 2 or 3", x.sure(3), 3);
        x.seen(1, 1);
        doc.due("and 2 or 3", x.sure(3), 3);
        doc.says(29, "SURE, as bits.");
        DrownedNames seven = Bench.ministry("w;nf1;n;n;n;n;n;n;f");
        doc.due("all seven", seven.sure(7), 127);
        doc.says(29, "NONE: nothing fits");
        doc.due("three are gone at least", x.sure(2), NONE);
        doc.due("three are gone at most", x.sure(4), NONE);
        doc.due("there are four", x.sure(7), NONE);
        doc.says(29, "no MINISTRY");
        doc.due("sure(0)", new DrownedNames().sure(0), NONE);
        doc.says(29, "out of bounds.");
        for (int k : new int[] {LEAST, -1, 8, MOST}) {
            doc.due("sure(" + k + ")", Bench.ministry(FILES).sure(k), NONE);
        }
    }

    private void ask() {
        doc.says(TERMS, "LOOK for k: the FILE by whose GAPS these are parted so that most of a sort are fewest (of several the "
                + "lowest).");
        DrownedNames x = Bench.ministry("wd30;nf1;n;n;n;f;fa2b3;fa1b2;fb2");
        doc.due("of one: two and two by each", x.ask(1), 0);
        x.seen(0, 1);
        // 0 or 1 is gone: the third file parts them, and so does the fourth.
        doc.due("the lowest that parts", x.ask(1), 2);
        x.seen(2, 0);
        doc.due("one is left: the lowest", x.ask(1), 0);
        // Of six names two are gone: by a file of two 6, 8 and 1.
        DrownedNames y = Bench.ministry("w;nf1;n;n;n;n;n;f;fa2b3;fa1b2");
        doc.due("alike", y.ask(2), 0);
        y.seen(0, 1);
        // One of 0 and 1, one of 2 to 5: by the second 4 and 4; by the third 3, 4 and 1.
        doc.due("four at most by both", y.ask(2), 1);
        // One of 0 and 1, one of 2, 3 and 4: by the second file 2, 3 and 1; by the third 2 and 4.
        DrownedNames z = Bench.ministry("w;nf1;n;n;n;n;f;fa0b2;fa2b3");
        z.seen(0, 1);
        doc.due("of six: 3, 2 and 1 rather than 4 and 2", z.ask(2), 1);
        // Of five names four are gone, 2 and 3 among them: by 2 and 3 all three sets are alike, by 0 and 1 they are 2 and 1.
        DrownedNames both = Bench.ministry("w;nf1;n;n;n;n;f;fa2b3");
        both.seen(1, 2);
        doc.due("most with both gaps: the other", both.ask(4), 0);
        DrownedNames turned = Bench.ministry("w;nf1;n;n;n;n;fa2b3;f");
        turned.seen(0, 2);
        doc.due("most with both gaps: the other", turned.ask(4), 1);
        doc.says(30, "LOOK.");
        doc.due("ask(1)", x.ask(1), 0);
        doc.says(30, "NONE likewise");
        x.seen(1, 2);
        doc.due("nothing fits", x.ask(1), NONE);
        doc.due("no ministry", new DrownedNames().ask(0), NONE);
        doc.due("of more than there are", Bench.ministry(FILES).ask(5), NONE);
        for (int k : new int[] {LEAST, -1, 8, MOST}) {
            doc.due("ask(" + k + ")", Bench.ministry(FILES).ask(k), NONE);
        }
        doc.says(30, "there is no FILE.");
        doc.due("ask(1)", Bench.ministry("w;nf1;n").ask(1), NONE);
        doc.due("ask(0)", Bench.ministry("w;nf1;n").ask(0), NONE);
    }

    /** From below in WELL 0: 2 (five DROPS), 3 (four); 0 KNOWS 2, 1 KNOWS 3; WELL 1 is empty. */
    private DrownedNames table() {
        DrownedNames x = Bench.ministry("wd20;wd20;ns1f2;ns1f3;ns5;ns4");
        x.dip(2, 0);
        x.dip(3, 0);
        return x;
    }

    private void gameTerms() {
        doc.says(TERMS, "GAME of two NAMES for a WELL: x, y (0 .. 9) how deep each would SCRATCH: it goes as deep as the deeper "
                + "(0: nobody comes up): what one has: 5, if who comes up by it is whom he KNOWS, less x (y).");
        DrownedNames x = table();
        int[][] games = {{0, 0, 0, 0}, {3, 3, -3, -3}, {0, 4, 0, 1}, {4, 0, -4, 5}, {4, 4, -4, 1}, {2, 8, -2, -3},
            {9, 0, -4, 0}, {0, 9, 5, -9}, {9, 9, -4, -9}, {8, 9, -3, -9}, {0, 3, 0, -3}};
        for (int[] game : games) {
            String told = "x " + game[0] + ", y " + game[1];
            doc.due(told + ": the one", x.game(0, 1, 0, game[0], game[1], 0), game[2]);
            doc.due(told + ": the other", x.game(0, 1, 0, game[0], game[1], 1), game[3]);
            doc.due(told + ": turned round", x.game(1, 0, 0, game[1], game[0], 1), game[2]);
        }
        doc.due("an empty well", x.game(0, 1, 1, 9, 8, 0), -9);
        doc.due("an empty well", x.game(0, 1, 1, 9, 8, 1), -8);
        doc.due("drowned ones", x.game(2, 3, 0, 0, 4, 1), -4);
        doc.due("0: nobody comes up, nor is it name 0", x.game(2, 3, 0, 0, 0, 0), 0);
        DrownedNames drop = Bench.ministry("w;ns1f1;nf0;n");
        drop.dip(0, 0);
        doc.due("0: not the one of a drop either", drop.game(1, 2, 0, 0, 0, 0), 0);
        doc.due("1: he comes up", drop.game(1, 2, 0, 1, 0, 0), 4);
    }

    private void game() {
        doc.says(31, "GAME: what the one has (0), the other (1).");
        DrownedNames x = table();
        doc.due("the one", x.game(0, 1, 0, 0, 4, 0), 0);
        doc.due("the other", x.game(0, 1, 0, 0, 4, 1), 1);
        doc.says(31, "HIDDEN: no such ones");
        for (int bad : new int[] {LEAST, -1, 4, MOST}) {
            doc.due("one " + bad, x.game(bad, 1, 0, 0, 0, 0), HIDDEN);
            doc.due("other " + bad, x.game(0, bad, 0, 0, 0, 0), HIDDEN);
            doc.due("well " + bad, x.game(0, 1, bad, 0, 0, 0), HIDDEN);
            doc.due("what " + bad, x.game(0, 1, 0, 0, 0, bad), HIDDEN);
        }
        doc.due("well 2", x.game(0, 1, 2, 0, 0, 0), HIDDEN);
        doc.due("what 2", x.game(0, 1, 0, 0, 0, 2), HIDDEN);
        doc.due("no ministry", new DrownedNames().game(0, 1, 0, 0, 0, 0), HIDDEN);
        doc.says(31, "alike");
        doc.due("game(0, 0, ..)", x.game(0, 0, 0, 0, 0, 0), HIDDEN);
        doc.due("game(3, 3, ..)", x.game(3, 3, 0, 0, 0, 1), HIDDEN);
        doc.says(31, "out of bounds.");
        for (int bad : new int[] {LEAST, -1, 10, MOST}) {
            doc.due("x " + bad, x.game(0, 1, 0, bad, 0, 0), HIDDEN);
            doc.due("y " + bad, x.game(0, 1, 0, 0, bad, 0), HIDDEN);
        }
    }

    private void rests() {
        doc.says(TERMS, "RESTS: 10 times x and y by which neither has more by another of his own: how many, the i-th (rising).");
        DrownedNames x = table();
        doc.due("the other alone scratches", x.rests(0, 1, 0, NONE), 1);
        doc.due("04", x.rests(0, 1, 0, 0), 4);
        doc.due("40", x.rests(1, 0, 0, 0), 40);
        doc.due("nobody in it: 00", x.rests(0, 1, 1, 0), 0);
        DrownedNames both = Bench.ministry("w;nf2;nf2;ns3");
        both.dip(2, 0);
        doc.due("either scratches", both.rests(0, 1, 0, NONE), 2);
        doc.due("03", both.rests(0, 1, 0, 0), 3);
        doc.due("30", both.rests(0, 1, 0, 1), 30);
        DrownedNames five = Bench.ministry("w;ns1f2;ns1f3;ns5;ns1");
        five.dip(2, 0);
        doc.due("as much by five as by none", five.rests(0, 1, 0, NONE), 2);
        doc.due("00", five.rests(0, 1, 0, 0), 0);
        doc.due("50", five.rests(0, 1, 0, 1), 50);
        doc.says(32, "RESTS: how many (i NONE), the i-th.");
        doc.due("how many", both.rests(0, 1, 0, NONE), 2);
        doc.due("the second", both.rests(0, 1, 0, 1), 30);
        doc.says(32, "NONE: no such one");
        for (int i : new int[] {LEAST, -2, 2, 100, MOST}) {
            doc.due("rests(0, 1, 0, " + i + ")", both.rests(0, 1, 0, i), NONE);
        }
        doc.says(32, "no such NAMES");
        for (int bad : new int[] {LEAST, -1, 3, 7, MOST}) {
            doc.due("one " + bad, both.rests(bad, 1, 0, NONE), NONE);
            doc.due("other " + bad, both.rests(0, bad, 0, NONE), NONE);
        }
        doc.due("no ministry", new DrownedNames().rests(0, 1, 0, NONE), NONE);
        doc.says(32, "WELL");
        for (int bad : new int[] {LEAST, -1, 1, 4, MOST}) {
            doc.due("well " + bad, both.rests(0, 1, bad, NONE), NONE);
        }
        doc.says(32, "alike.");
        doc.due("rests(0, 0, ..)", both.rests(0, 0, 0, NONE), NONE);
        doc.due("rests(2, 2, ..)", both.rests(2, 2, 0, 0), NONE);
    }

    /** The ODDS of one who lies alone with so many DROPS. */
    private int alone(int drops, int k) {
        int each = drops > 5 ? 2 : 1;
        DrownedNames x = Bench.ministry("sd" + each + ";wd30;ns" + drops / each + "f1;n");
        x.dip(0, 0);
        return x.odds(0, k);
    }

    private void oddsTerms() {
        doc.says(TERMS, "ODDS of a DROWNED one for k (0 .. 4) SCRATCHES in his WELL, each 3, 5 or 7 deep, alike likely, one behind "
                + "the other: of 10 to the 9 parts those by which he comes up (thirds of each part, cut; the third third is what "
                + "is left).");
        doc.due("no scratch", alone(3, 0), 0);
        doc.due("3 drops", alone(3, 1), 1000000000);
        doc.due("4 drops", alone(4, 1), 666666667);
        doc.due("5 drops", alone(5, 1), 666666667);
        doc.due("6 drops", alone(6, 1), 333333334);
        doc.due("8 drops", alone(8, 4), 0);
        doc.due("6 drops, two", alone(6, 2), 333333334 + 2 * 111111111);
        doc.due("6 drops, three", alone(6, 3), 333333334 + 2 * (111111111 + 2 * 37037037));
        doc.due("6 drops, four", alone(6, 4), 333333334 + 2 * (111111111 + 2 * (37037037 + 2 * 12345679)));
        // Four over three: by 5 he comes up; by 7 the one beneath him, and he lies alone.
        DrownedNames x = Bench.ministry("wd30;wd30;ns4f1;ns3;ns1");
        x.dip(1, 0);
        x.dip(0, 0);
        doc.due("over another, one", x.odds(0, 1), 333333333);
        doc.due("over another, two", x.odds(0, 2), 333333333 + 111111111 + 111111111 + 111111112);
        doc.due("beneath another, one", x.odds(1, 1), 333333334);
        // By 3 nobody, then 7; by 5 the one over him, then any.
        doc.due("beneath another, two", x.odds(1, 2), 333333334 + 111111111 + 333333333);
        x.dip(2, 1);
        doc.due("another well is not scratched", x.odds(2, 1), 1000000000);
        doc.due("nor does it change these", x.odds(0, 1), 333333333);
    }

    private void odds() {
        DrownedNames x = table();
        doc.says(33, "ODDS.");
        doc.due("four drops", x.odds(3, 1), 666666667);
        doc.says(33, "NONE: he is free");
        doc.due("odds(0, 1)", x.odds(0, 1), NONE);
        doc.due("odds(0, 0)", x.odds(0, 0), NONE);
        doc.says(33, "no such NAME");
        for (int name : new int[] {LEAST, -1, 4, 7, MOST}) {
            doc.due("odds(" + name + ", 1)", x.odds(name, 1), NONE);
        }
        doc.due("no ministry", new DrownedNames().odds(0, 1), NONE);
        doc.says(33, "out of bounds.");
        for (int k : new int[] {LEAST, -1, 5, MOST}) {
            doc.due("odds(3, " + k + ")", x.odds(3, k), NONE);
        }
        doc.due("none", x.odds(3, 0), 0);
        doc.due("four", x.odds(3, 4) > 900000000, true);
    }

    private void shares() {
        doc.says(TERMS, "SHARES of c (0 .. 999) by DROPS in them: for a WELL c times its by all, cut (none: 0).");
        DrownedNames x = Bench.ministry("wd20;wd20;wd20;ns3f1;ns2;ns2");
        doc.due("nobody is drowned", x.shares(0, 999), 0);
        x.dip(0, 0);
        doc.due("all in one", x.shares(0, 999), 999);
        doc.due("nobody in it", x.shares(1, 999), 0);
        x.dip(1, 1);
        x.dip(2, 1);
        doc.due("three of seven", x.shares(0, 999), 428);
        doc.due("four of seven", x.shares(1, 999), 570);
        doc.due("of none", x.shares(0, 0), 0);
        doc.due("of one", x.shares(1, 1), 0);
        doc.due("of two", x.shares(1, 2), 1);
        DrownedNames drop = Bench.ministry("w;w;ns1f1;n");
        drop.dip(0, 1);
        doc.due("a drop in all", drop.shares(1, 7), 7);
        doc.says(34, "SHARES.");
        doc.due("of seven", x.shares(0, 7), 3);
        doc.says(34, "NONE: no such WELL");
        for (int well : new int[] {LEAST, -1, 3, 4, MOST}) {
            doc.due("shares(" + well + ", 1)", x.shares(well, 1), NONE);
        }
        doc.due("no ministry", new DrownedNames().shares(0, 0), NONE);
        doc.says(34, "out of bounds.");
        for (int c : new int[] {LEAST, -1, 1000, MOST}) {
            doc.due("shares(0, " + c + ")", x.shares(0, c), NONE);
        }
    }

    private void net() {
        doc.says(TERMS, "NET: how many free ones KNOW one who is DROWNED.");
        DrownedNames x = Bench.ministry("wd30;nf1;nf2;nf1;nf1;nf0");
        doc.due("nobody is drowned", x.most(1), 0);
        x.dip(1, 0);
        doc.due("three know 1", x.most(1), 3);
        x.dip(0, 0);
        doc.due("two know 1, one knows 0", x.most(1), 3);
        x.dip(2, 0);
        x.dip(3, 0);
        doc.due("one knows 0", x.most(1), 1);
        x.dip(4, 0);
        doc.due("nobody is free", x.most(1), 0);
    }

    private void amnesty() {
        doc.says(TERMS, "AMNESTY: the WELL by whose WATER MISSED of all DROWNED ones together would be least then (of several "
                + "the lowest).");
        DrownedNames x = Bench.ministry("sc0;wd20;wd20;wd20;ns3f1;ns4;ns2f1;ns1f2");
        doc.due("nobody is drowned", x.most(2), 0);
        x.dip(0, 2);
        doc.due("the only one with any", x.most(2), 2);
        x.dip(1, 1);
        // Water on 1: 0 three and twice one; on 2: 1 four and twice two; on 0: 0 three, 1 four and twice one.
        doc.due("as it would be then", x.most(2), 1);
        DrownedNames alike = Bench.ministry("wd20;wd20;wd20;nf1;n;n;n");
        alike.dip(2, 2);
        alike.dip(3, 1);
        doc.due("of two alike the lowest", alike.most(2), 1);
        // 0 and 1 know one another: whoever came up would miss the other.
        DrownedNames empty = Bench.ministry("wd20;wd20;wd20;nf1;n;nf3;nf2");
        Bench.hold(empty, "y:k*9+1");
        empty.dip(0, 1);
        empty.dip(1, 2);
        doc.due("a well with nobody in it", empty.most(2), 0);
        DrownedNames full = Bench.ministry("wd20;wd20;nf1;n;nf3;nf2");
        Bench.hold(full, "y:k*9+1");
        full.dip(0, 0);
        full.dip(1, 1);
        doc.due("more by each, both alike: the lowest", full.most(2), 0);
        DrownedNames over = Bench.ministry("wd20;wd20;ns2f2;ns5;ns1");
        Bench.hold(over, "y:a");
        over.dip(2, 0);
        over.dip(1, 1);
        over.dip(0, 1);
        doc.due("two drops lie over 1", over.most(2), 1);
        doc.due("nobody came up", over.count(8), 7);
        // Nobody knows 0 and 1: water on 0 leaves one, on 1 five; both now are six.
        DrownedNames first = Bench.ministry("wd20;wd20;ns5f2;ns1f2;nf3;nf2");
        first.dip(0, 0);
        first.dip(1, 1);
        doc.due("the first", first.most(2), 0);
    }

    private void mosts() {
        doc.says(TERMS, "DEEPEST: the WELL with the most DEPTH");
        DrownedNames x = Bench.ministry("wd7;wd9;wd9;wd8;ns4f1;ns4;ns1f1;ns2f1;ns5f3");
        doc.due("of two alike the lowest", x.most(3), 1);
        x.fill(2);
        doc.due("filled", x.most(3), 2);
        doc.due("of all alike", Bench.ministry("wd0;wd0;nf1;n").most(3), 0);
        doc.says(TERMS, "FULLEST: with the most DROPS");
        doc.due("nobody is drowned", x.most(4), 0);
        x.dip(0, 3);
        doc.due("the only one", x.most(4), 3);
        x.dip(1, 1);
        doc.due("of two alike the lowest", x.most(4), 1);
        x.dip(2, 3);
        doc.due("a drop more", x.most(4), 3);
        doc.says(TERMS, "LONGEST: the NAME with the most SYLLABLES");
        doc.due("the last", x.most(5), 4);
        x.dip(4, 2);
        doc.due("drowned, too", x.most(5), 4);
        doc.due("of two alike the lowest", Bench.ministry("w;ns1f1;ns3;ns3").most(5), 1);
        doc.due("all alike", Bench.ministry("w;nf1;n").most(5), 0);
        doc.says(TERMS, "DEAREST: the free one whom most free ones KNOW (of several the lowest, all).");
        DrownedNames y = Bench.ministry("wd30;nf1;nf2;nf1;nf2;nf0");
        doc.due("1 and 2 alike", y.most(6), 1);
        doc.due("all alike", Bench.ministry("w;nf1;n").most(6), 0);
        y.dip(0, 0);
        doc.due("2 by two", y.most(6), 2);
        y.dip(2, 0);
        doc.due("known by none, all alike", y.most(6), 1);
        y.dip(1, 0);
        y.dip(3, 0);
        doc.due("the only one", y.most(6), 4);
        doc.says(TERMS, "HATS: how many are DROWNED.");
        doc.due("four", y.most(7), 4);
        doc.due("none", Bench.ministry("w;nf1;n").most(7), 0);
        y.dip(4, 0);
        doc.due("all", y.most(7), 5);
    }

    private void most() {
        doc.says(35, "BEST (0; NONE: none)");
        DrownedNames x = Bench.ministry("wd30;nf1;n");
        doc.due("the lowest", x.most(0), 0);
        x.dip(0, 0);
        doc.due("the other", x.most(0), 1);
        x.dip(1, 0);
        doc.due("nobody is free", x.most(0), NONE);
        doc.due("nobody can be dipped", Bench.ministry("wd1;nf1;n").most(0), NONE);
        doc.says(35, "NET (1), AMNESTY (2), DEEPEST (3), FULLEST (4), LONGEST (5)");
        DrownedNames y = Bench.ministry("wd3;wd4;wd5;ns1f1;nf3;n;ns4;n");
        y.dip(0, 1);
        y.dip(3, 2);
        // Missed then: water on 1 six (3), on 2 seven (0), on 0 both, eleven.
        int[] want = {4, 3, 1, 2, 2, 3};
        for (int what = 1; what < 6; what++) {
            doc.due("most(" + what + ")", y.most(what), want[what]);
        }
        doc.says(35, "DEAREST (6; NONE: nobody is free)");
        doc.due("known by none", y.most(6), 1);
        doc.due("nobody is free", x.most(6), NONE);
        doc.says(35, "HATS (7).");
        doc.due("two", y.most(7), 2);
        doc.says(35, "NONE: no MINISTRY");
        for (int what = 0; what < 8; what++) {
            doc.due("most(" + what + ")", new DrownedNames().most(what), NONE);
        }
        doc.says(35, "no such what.");
        for (int what : new int[] {LEAST, -1, 8, MOST}) {
            doc.due("most(" + what + ")", x.most(what), NONE);
        }
    }

    private void known() {
        doc.says(TERMS, "KNOWN by: NAMES (bits) who KNOW a NAME.");
        DrownedNames x = Bench.ministry("wd30;nf1;n;n;n;n;n;n");
        doc.due("known by six", x.known(0), 126);
        doc.due("known by one", x.known(1), 1);
        doc.due("known by nobody", x.known(6), 0);
        x.dip(6, 0);
        x.dip(0, 0);
        doc.due("drowned ones know", x.known(0), 126);
        doc.says(36, "KNOWN by, as bits.");
        doc.due("known(1)", x.known(1), 1);
        doc.says(36, "NONE: no such NAME.");
        for (int name : new int[] {LEAST, -1, 7, MOST}) {
            doc.due("known(" + name + ")", x.known(name), NONE);
        }
        doc.due("of two", Bench.ministry("w;nf1;n").known(2), NONE);
        doc.due("no ministry", new DrownedNames().known(0), NONE);
    }

    private void quietTerms() {
        doc.says(TERMS, "QUIET: in how many YEARS (0 .. 999) UNREST would be n (1 .. 9,999) or more, if all were MISSED as much "
                + "each YEAR as now.");
        DrownedNames x = Bench.ministry("w;ns1f1;nf2;nf1");
        x.dip(0, 0);
        doc.due("one a year", x.quiet(1), 1);
        doc.due("one a year", x.quiet(999), 999);
        doc.due("one a year", x.quiet(1000), NONE);
        x.years(5);
        doc.due("so already", x.quiet(5), 0);
        doc.due("in a year", x.quiet(6), 1);
        doc.due("in 999 years", x.quiet(1004), 999);
        x.blot(0);
        doc.due("so already, nobody is drowned", x.quiet(5), 0);
        doc.due("never", x.quiet(6), NONE);
        x.undo();
        Bench.hold(x, "y:30-y");
        doc.due("25 now, 24 the next", x.quiet(30), 1);
        doc.due("as much each year as now", x.quiet(55), 2);
        doc.due("a little more", x.quiet(56), 3);
        Bench.hold(x, "y:30");
        doc.due("9,999", x.quiet(9999), 334);
        Bench.hold(x, "y:10");
        doc.due("9,995 by 999 years", x.quiet(9995), 999);
        doc.due("one more", x.quiet(9996), NONE);
    }

    private void quiet() {
        DrownedNames x = Bench.ministry("wd20;ns5f1;ns1");
        x.dip(0, 0);
        doc.says(37, "QUIET.");
        doc.due("seven a year", x.quiet(7), 1);
        doc.due("seven a year", x.quiet(8), 2);
        doc.says(37, "NONE: not within 999");
        doc.due("in 999", x.quiet(6993), 999);
        doc.due("in 1000", x.quiet(6994), NONE);
        x.blot(0);
        doc.due("never", x.quiet(1), NONE);
        doc.says(37, "no MINISTRY");
        doc.due("quiet(1)", new DrownedNames().quiet(1), NONE);
        doc.says(37, "out of bounds.");
        x.dip(0, 0);
        Bench.hold(x, "y:30");
        for (int n : new int[] {LEAST, -1, 0, 10000, MOST}) {
            doc.due("quiet(" + n + ")", x.quiet(n), NONE);
        }
        doc.due("9999", x.quiet(9999), 334);
    }
}
