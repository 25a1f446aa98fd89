/** Edges of ACTS, sentence by sentence: who lies where, who is MISSED, STATUS, promises 6 to 18, 20 to 22. */
final class ActEdges {
    private static final int NONE = Bench.NONE;
    private static final int REFUSED = -2;
    private static final int TERMS = Sentences.TERMS;
    private static final int LEAST = Integer.MIN_VALUE;
    private static final int MOST = Integer.MAX_VALUE;
    // Drops: 2, 3, 2, 4; the third is foreign; 0 and 2 know 1, 1 and 3 know 2.
    private static final String OFFICE = "sc6;wd8;wd5r1;wd30;ns2f1;ns3f2;ns2f1o1;ns4f2;f;fa2b3;fa3b0";

    private final Sentences doc;

    ActEdges(Sentences doc) {
        this.doc = doc;
    }

    void go() {
        lying();
        missed();
        letters();
        dipped();
        scratched();
        scratchedUp();
        paid();
        yearsGoBy();
        unrest();
        logOfYears();
        acts();
        undoneActs();
        refusals();
        refusedFirst();
        rule();
        name();
        well();
        file();
        law();
        dip();
        scratch();
        blot();
        water();
        fill();
        give();
        years();
        flies();
        status();
        undo();
        log();
    }

    private void lying() {
        doc.says(TERMS, "A NAME is free (at first) or DROWNED in a WELL.");
        DrownedNames x = Bench.ministry(OFFICE);
        for (int name = 0; name < 4; name++) {
            doc.due("name(" + name + ", 3)", x.name(name, 3), NONE);
        }
        doc.due("nobody is drowned", x.count(8), 0);
        x.dip(3, 2);
        doc.due("drowned", x.name(3, 3), 2);
        x.blot(2);
        doc.due("free again", x.name(3, 3), NONE);
        doc.says(TERMS, "DROPS of a NAME: SYLLABLES by how many DROPS each takes.");
        doc.due("five by three", Bench.ministry("sd3;wd15;ns5f1;n").dip(0, 0), 0);
        doc.due("one by one", Bench.ministry("sd1;wd1;ns1f1;n").dip(0, 0), 0);
        doc.due("two by two", Bench.ministry("sd2;wd4;nf1;n").dip(0, 0), 0);
        doc.says(TERMS, "NAMES in a WELL lie over one another, the latest uppermost.");
        DrownedNames y = Bench.ministry("wd30;wd30;nf1;n;n;n");
        y.dip(1, 0);
        y.dip(0, 0);
        y.dip(2, 0);
        doc.due("layer(0, 0)", y.layer(0, 0), 1);
        doc.due("layer(0, 1)", y.layer(0, 1), 0);
        doc.due("layer(0, 2)", y.layer(0, 2), 2);
        y.scratch(0, 6);
        y.dip(1, 0);
        doc.due("come up and dipped again: uppermost", y.layer(0, 2), 1);
        doc.due("another is the lowest", y.layer(0, 0), 0);
        doc.says(TERMS, "ROOM of a WELL: DEPTH less DROPS of all in it.");
        DrownedNames z = Bench.ministry("wd8;wd0;ns5f1;ns3;n");
        doc.due("of no depth", z.well(1, 2), 0);
        doc.due("empty", z.well(0, 2), 8);
        doc.due("less five", z.dip(0, 0), 3);
        doc.due("full", z.dip(1, 0), 0);
        z.fill(0);
        doc.due("filled", z.well(0, 2), 1);
        z.scratch(0, 3);
        doc.due("one came up", z.well(0, 2), 4);
        doc.says(TERMS, "ABOVE one: DROPS of those over him.");
        DrownedNames v = Bench.ministry(OFFICE);
        v.dip(0, 2);
        v.dip(1, 2);
        v.dip(3, 2);
        doc.due("two over him", v.name(0, 4), 7);
        doc.due("one over him", v.name(1, 4), 4);
        doc.due("the uppermost", v.name(3, 4), 0);
        v.scratch(2, 7);
        doc.due("the middle one came up", v.name(0, 4), 4);
        doc.due("he himself is free", v.name(1, 4), 0);
    }

    private void missed() {
        doc.says(TERMS, "He is MISSED: WORTH by the LAW that holds, held within 0 .. 30");
        String[] laws = {"y:29", "y:30", "y:31", "y:9999", "y:1", "y:0", "y:0-1", "y:0-9999"};
        int[] want = {29, 30, 30, 30, 1, 0, 0, 0};
        for (int i = 0; i < laws.length; i++) {
            DrownedNames x = Bench.ministry(OFFICE);
            Bench.hold(x, laws[i]);
            doc.due("by " + laws[i], x.name(0, 5), want[i]);
        }
        DrownedNames two = Bench.ministry(OFFICE);
        Bench.hold(two, "y:3");
        Bench.hold(two, "y:4");
        doc.due("by the second", two.name(0, 5), 4);
        two.law(0);
        doc.due("by the first", two.name(0, 5), 3);
        doc.says(TERMS, "(none at first: SYLLABLES, and twice how many free ones KNOW him)");
        DrownedNames x = Bench.ministry("wd30;ns5f1;ns1;n;n;n;n;n");
        doc.due("known by all six", x.name(0, 5), 17);
        doc.due("known by one", x.name(1, 5), 3);
        doc.due("known by nobody", x.name(2, 5), 2);
        x.dip(2, 0);
        doc.due("known by five free ones", x.name(0, 5), 15);
        x.dip(0, 0);
        doc.due("known by nobody free", x.name(1, 5), 1);
        doc.due("drowned himself", x.name(0, 5), 15);
    }

    private void letter(String letter, int... want) {
        DrownedNames x = Bench.ministry(OFFICE);
        Bench.hold(x, "y:" + letter);
        x.years(5);
        x.dip(0, 2);
        x.dip(1, 2);
        x.dip(2, 1);
        for (int name = 0; name < 4; name++) {
            doc.due(letter + " of " + name, x.name(name, 5), want[name]);
        }
    }

    private void letters() {
        doc.says(TERMS, "letters: s SYLLABLES");
        letter("s", 2, 3, 2, 4);
        doc.says(TERMS, "k how many free ones KNOW him");
        letter("k", 0, 0, 1, 0);
        DrownedNames x = Bench.ministry(OFFICE);
        Bench.hold(x, "y:k");
        doc.due("two free ones know 1", x.name(1, 5), 2);
        x.dip(0, 0);
        doc.due("one of them", x.name(1, 5), 1);
        doc.says(TERMS, "a DROPS ABOVE him (free: 0)");
        letter("a", 3, 0, 0, 0);
        doc.says(TERMS, "o whether FOREIGN");
        letter("o", 0, 0, 1, 0);
        letter("o+5", 5, 5, 6, 5);
        doc.says(TERMS, "w the WELL (free: how many WELLS there are)");
        letter("w", 2, 2, 1, 3);
        DrownedNames first = Bench.ministry(OFFICE);
        Bench.hold(first, "y:w");
        first.dip(0, 0);
        doc.due("well 0", first.name(0, 5), 0);
        doc.says(TERMS, "y the YEAR.");
        letter("y", 5, 5, 5, 5);
        DrownedNames late = Bench.ministry(OFFICE);
        Bench.hold(late, "y:y-980");
        doc.due("year 0", late.name(0, 5), 0);
        late.decades(39, 1);
        for (int i = 0; i < 16; i++) {
            late.years(60);
        }
        doc.due("year 999", late.name(0, 5), 19);
    }

    private void dipped() {
        doc.says(TERMS, "A free NAME is DIPPED into a WELL: with ROOM for his DROPS");
        DrownedNames x = Bench.ministry("wd4;wd3;wd2;wd0;ns4f1;ns3");
        doc.due("a drop too few", x.dip(0, 1), NONE);
        doc.due("no depth at all", x.dip(0, 3), NONE);
        doc.due("room to the drop", x.dip(0, 0), 0);
        doc.due("full", x.dip(1, 0), NONE);
        doc.due("not free", x.dip(0, 0), NONE);
        doc.due("a drop too few", x.dip(1, 2), NONE);
        doc.due("room to the drop", x.dip(1, 1), 0);
        doc.due("who", x.count(8), 3);
        doc.says(TERMS, "RED for a FOREIGN one, not RED for others.");
        DrownedNames y = Bench.ministry("wd9;wd9r1;nf1;no1");
        doc.due("others into red", y.dip(0, 1), NONE);
        doc.due("foreign into black", y.dip(1, 0), NONE);
        doc.due("others into black", y.dip(0, 0), 7);
        doc.due("foreign into red", y.dip(1, 1), 7);
    }

    private void scratched() {
        doc.says(TERMS, "A pen SCRATCHES in a WELL n (1 .. 9) DROPS deep");
        DrownedNames one = Bench.ministry("wd30;ns1f1;n");
        one.dip(0, 0);
        doc.due("none deep", one.scratch(0, 0), REFUSED);
        doc.due("one deep", one.scratch(0, 1), 0);
        DrownedNames nine = Bench.ministry("sd3;wd30;ns3f1;n");
        nine.dip(0, 0);
        doc.due("eight deep", nine.scratch(0, 8), NONE);
        doc.due("ten deep", nine.scratch(0, 10), REFUSED);
        doc.due("nine deep", nine.scratch(0, 9), 0);
        DrownedNames ten = Bench.ministry("sd2;wd30;ns5f1;n");
        ten.dip(0, 0);
        doc.due("ten drops, nine deep", ten.scratch(0, 9), NONE);
    }

    /** From below: 3 (four DROPS), 1 (three), 0 (two). */
    private DrownedNames stack() {
        DrownedNames x = Bench.ministry(OFFICE);
        x.dip(3, 2);
        x.dip(1, 2);
        x.dip(0, 2);
        return x;
    }

    private void scratchedUp() {
        doc.says(TERMS, "the lowest one whose DROPS and those ABOVE him together are n at most comes up");
        int[] up = {NONE, 0, 0, 0, 1, 1, 1, 1, 3};
        for (int n = 1; n <= 9; n++) {
            doc.due(n + " deep", stack().scratch(2, n), up[n - 1]);
        }
        doc.says(TERMS, "(is free; those over him stay)");
        DrownedNames x = stack();
        x.scratch(2, 5);
        doc.due("he is free", x.name(1, 3), NONE);
        doc.due("the one beneath stays", x.layer(2, 0), 3);
        doc.due("the one over him stays", x.layer(2, 1), 0);
        doc.due("two are left", x.well(2, 3), 2);
        doc.due("no coins for it", x.rule(1), 6);
        doc.says(TERMS, "is there none, nobody.");
        DrownedNames y = stack();
        doc.due("one deep", y.scratch(2, 1), NONE);
        doc.due("all lie there", y.count(8), 11);
    }

    private void paid() {
        doc.says(TERMS, "BLOTTED: the uppermost one in a WELL comes up (2 COINS).");
        DrownedNames x = Bench.ministry("sc3;wd9;nf1;n");
        x.dip(1, 0);
        x.dip(0, 0);
        doc.due("the uppermost", x.blot(0), 0);
        doc.due("coins", x.rule(1), 1);
        doc.due("one coin is too few", x.blot(0), REFUSED);
        x.give(1);
        doc.due("two are enough", x.blot(0), 1);
        doc.due("coins", x.rule(1), 0);
        doc.says(TERMS, "WATER: all in a WELL come up (5 COINS).");
        DrownedNames y = Bench.ministry("sc4;wd30;w;nf1;n;n;n;n;n;n");
        for (int name = 0; name < 6; name++) {
            y.dip(name, 0);
        }
        y.dip(6, 1);
        doc.due("four coins are too few", y.water(0), NONE);
        y.give(1);
        doc.due("five are enough", y.water(0), 6);
        doc.due("coins", y.rule(1), 0);
        doc.due("those in other wells stay", y.count(8), 64);
        doc.says(TERMS, "FILLED: DEPTH one more (30 at most; a COIN).");
        DrownedNames z = Bench.ministry("sc3;wd0;wd29;nf1;n");
        doc.due("one", z.fill(0), 1);
        doc.due("thirty", z.fill(1), 30);
        doc.due("no more", z.fill(1), NONE);
        doc.due("coins", z.rule(1), 1);
        doc.due("the last coin", z.fill(0), 2);
        doc.due("no coin", z.fill(0), NONE);
        doc.says(TERMS, "COINS are given (1 .. 50; 999 at most).");
        DrownedNames v = Bench.ministry("sc99;w;nf1;n");
        doc.due("none", v.give(0), NONE);
        doc.due("one", v.give(1), 100);
        doc.due("51", v.give(51), NONE);
        for (int i = 1; i <= 17; i++) {
            doc.due("50", v.give(50), 100 + 50 * i);
        }
        doc.due("1000", v.give(50), NONE);
        doc.due("999", v.give(49), 999);
        doc.due("1000", v.give(1), NONE);
    }

    private void yearsGoBy() {
        doc.says(TERMS, "A YEAR (0 at first; 999 at most: none goes by then)");
        DrownedNames x = Bench.ministry("w;nf1;n");
        doc.due("at first", x.count(6), 0);
        for (int i = 0; i < 16; i++) {
            x.years(60);
        }
        doc.due("998", x.years(38), 998);
        doc.due("1000", x.years(2), NONE);
        doc.due("still", x.count(6), 998);
        doc.due("999", x.years(1), 999);
        String then = Sight.ofAll(x);
        doc.due("none goes by", x.years(1), NONE);
        doc.due("none goes by", x.decades(1, 5), NONE);
        doc.due("all as it was", Sight.ofAll(x), then);
        doc.says(TERMS, "the YEAR is one later.");
        DrownedNames y = Bench.ministry("w;nf1;n");
        doc.due("a year", y.years(1), 1);
        doc.due("another", y.years(1), 2);
        doc.due("sixty", y.years(60), 62);
        doc.says(TERMS, "COINS one more for each free NAME (999 at most)");
        DrownedNames z = Bench.ministry("sc5;wd30;nf1;n;n");
        z.years(1);
        doc.due("three free", z.rule(1), 8);
        z.dip(0, 0);
        z.dip(1, 0);
        z.years(2);
        doc.due("one free, twice", z.rule(1), 10);
        z.dip(2, 0);
        z.years(3);
        doc.due("none free", z.rule(1), 10);
        DrownedNames rich = Bench.ministry("sc98;w;nf1;n");
        for (int i = 0; i < 18; i++) {
            rich.give(50);
        }
        doc.due("998", rich.rule(1), 998);
        rich.years(1);
        doc.due("two more, 999 at most", rich.rule(1), 999);
        rich.years(1);
        doc.due("999 at most", rich.rule(1), 999);
        rich.undo();
        rich.undo();
        doc.due("undone", rich.rule(1), 998);
    }

    /** One NAME DROWNED who is MISSED so much each YEAR, so many YEARS later. */
    private DrownedNames afterYears(int missed, int sixties, int more) {
        DrownedNames x = Bench.ministry("w;nf1;n");
        Bench.hold(x, "y:" + missed);
        x.dip(0, 0);
        for (int i = 0; i < sixties; i++) {
            x.years(60);
        }
        x.years(more);
        return x;
    }

    private void unrest() {
        doc.says(TERMS, "UNREST (0 at first; 9,999 at most) is more by how much all DROWNED ones are MISSED");
        doc.due("at first", Bench.ministry(OFFICE).count(7), 0);
        DrownedNames x = stack();
        x.years(1);
        doc.due("4, and 3 and twice 1, and 2", x.count(7), 11);
        DrownedNames free = Bench.ministry(OFFICE);
        free.years(60);
        doc.due("nobody is drowned", free.count(7), 0);
        DrownedNames eleven = afterYears(11, 15, 8);
        doc.due("908 times 11", eleven.count(7), 9988);
        eleven.years(1);
        doc.due("9,999 to the one", eleven.count(7), 9999);
        eleven.years(1);
        doc.due("no more", eleven.count(7), 9999);
        DrownedNames most = afterYears(27, 6, 10);
        doc.due("370 times 27", most.count(7), 9990);
        most.years(1);
        doc.due("9,999 at most", most.count(7), 9999);
        doc.due("the log has all of it", most.log(0, 1), 27);
        most.undo();
        doc.due("undone", most.count(7), 9990);
    }

    private void logOfYears() {
        doc.says(TERMS, "the LOG: who is DROWNED (bits), how much they are MISSED (the latest 60)");
        DrownedNames x = Bench.ministry(OFFICE);
        doc.due("at first", x.count(11), 0);
        x.years(1);
        doc.due("nobody", x.log(0, 0), 0);
        doc.due("not missed", x.log(0, 1), 0);
        x.dip(0, 2);
        x.dip(3, 2);
        x.years(1);
        doc.due("bits", x.log(0, 0), 9);
        doc.due("2 and 4", x.log(0, 1), 6);
        x.water(2);
        x.years(58);
        doc.due("sixty", x.count(11), 60);
        doc.due("the oldest", x.log(59, 0), 0);
        doc.due("the next", x.log(58, 0), 9);
        doc.due("the 61st", x.log(60, 0), NONE);
        x.years(1);
        doc.due("still sixty", x.count(11), 60);
        doc.due("the oldest was pushed out", x.log(59, 0), 9);
        doc.due("the 61st", x.log(60, 0), NONE);
        x.years(1);
        doc.due("the next, too", x.log(59, 0), 0);
        DrownedNames all = Bench.ministry("wd30;nf1;n;n;n;n;n;n");
        for (int name = 0; name < 7; name++) {
            all.dip(name, 0);
        }
        all.years(1);
        doc.due("all seven", all.log(0, 0), 127);
        doc.due("two each", all.log(0, 1), 14);
    }

    private void acts() {
        doc.says(TERMS, "All these (each YEAR) are ACTS");
        DrownedNames x = Bench.ministry("sc20;wd9;nf1;n;f");
        doc.due("at first", x.count(12), 0);
        x.dip(0, 0);
        doc.due("dipped", x.count(12), 1);
        x.scratch(0, 1);
        doc.due("scratched, nobody came up", x.count(12), 2);
        x.scratch(0, 2);
        doc.due("scratched", x.count(12), 3);
        x.dip(0, 0);
        x.blot(0);
        doc.due("blotted", x.count(12), 5);
        x.dip(0, 0);
        x.water(0);
        doc.due("water", x.count(12), 7);
        x.fill(0);
        doc.due("filled", x.count(12), 8);
        x.give(1);
        doc.due("given", x.count(12), 9);
        x.years(3);
        doc.due("each year", x.count(12), 12);
        x.decades(2, 1);
        doc.due("each year of decades", x.count(12), 14);
        x.flies(4);
        x.law(NONE);
        x.seen(0, 0);
        x.image();
        Bench.tell(x, "y:1");
        x.text(1);
        doc.due("nothing else", x.count(12), 14);
    }

    private void undoneActs() {
        doc.says(TERMS, "the latest 40 can be UNDONE one by one (the LOG, too).");
        DrownedNames x = Bench.ministry("sc0;w;nf1;n");
        for (int i = 0; i < 41; i++) {
            x.give(1);
        }
        doc.due("forty", x.count(12), 40);
        for (int left = 39; left >= 0; left--) {
            doc.due("undo", x.undo(), left);
            doc.due("one by one", x.rule(1), left + 1);
        }
        doc.due("the 41st", x.undo(), NONE);
        doc.due("the first stays", x.rule(1), 1);
        DrownedNames four = Bench.ministry("sc9;wd1;wd2;wd3;wd4;nf1;n;n;n;n;n;n");
        four.dip(6, 3);
        four.fill(3);
        four.fill(3);
        four.undo();
        doc.due("the fourth well", four.well(3, 0), 5);
        doc.due("the third well", four.well(2, 0), 3);
        doc.due("the seventh name", four.layer(3, 0), 6);
        doc.due("coins", four.rule(1), 8);
        DrownedNames y = Bench.ministry("sc99;wd9;nf1;n;n");
        y.dip(2, 0);
        y.years(1);
        y.blot(0);
        y.years(59);
        String then = Sight.ofState(y);
        y.dip(0, 0);
        y.years(39);
        doc.due("39 were pushed out", y.log(38, 0), 1);
        doc.due("39 were pushed out", y.log(39, 0), 0);
        for (int i = 0; i < 40; i++) {
            y.undo();
        }
        doc.due("the log of before", Sight.ofState(y), then);
        doc.due("its oldest", y.log(59, 0), 4);
        doc.due("none more", y.undo(), NONE);
        y.years(1);
        doc.due("an act anew", y.count(12), 1);
        doc.due("undone", y.undo(), 0);
        doc.due("the log of before", Sight.ofState(y), then);
    }

    private void refusals() {
        doc.says(TERMS, "STATUS: how many ACTS were refused as there was no such one (0)");
        DrownedNames x = new DrownedNames();
        x.dip(0, 0);
        x.scratch(0, 1);
        x.blot(0);
        x.water(0);
        x.fill(0);
        x.give(1);
        x.years(1);
        doc.dueStatus(x, 7, 0, 0, 0, 0);
        doc.says(TERMS, "out of bounds (1)");
        DrownedNames y = Bench.ministry(OFFICE);
        y.dip(0, 0);
        y.scratch(0, 10);
        y.give(51);
        y.years(61);
        doc.dueStatus(y, 0, 3, 0, 0, 0);
        doc.says(TERMS, "not free, nobody in it, thirty (2)");
        DrownedNames z = Bench.ministry(OFFICE);
        z.dip(0, 0);
        z.dip(0, 0);
        z.scratch(1, 5);
        z.blot(1);
        z.water(1);
        z.fill(2);
        doc.dueStatus(z, 0, 0, 5, 0, 0);
        doc.says(TERMS, "no ROOM, not his colour (3)");
        DrownedNames v = Bench.ministry("wd1;wd9r1;nf1;n");
        v.dip(0, 0);
        v.dip(0, 1);
        doc.dueStatus(v, 0, 0, 0, 2, 0);
        doc.says(TERMS, "too few COINS, beyond the last YEAR (4)");
        DrownedNames u = Bench.ministry("sc0;w;nf1;n");
        u.dip(0, 0);
        u.blot(0);
        u.water(0);
        u.fill(0);
        doc.dueStatus(u, 0, 0, 0, 0, 3);
        for (int i = 0; i < 16; i++) {
            u.years(60);
        }
        u.years(40);
        doc.dueStatus(u, 0, 0, 0, 0, 4);
        doc.says(TERMS, "not UNDONE.");
        u.undo();
        doc.dueStatus(u, 0, 0, 0, 0, 4);
        u.image();
        u.back();
        doc.dueStatus(u, 0, 0, 0, 0, 4);
    }

    private void refusedFirst() {
        doc.says(TERMS, "of several the first");
        DrownedNames x = new DrownedNames();
        x.scratch(0, 0);
        x.give(0);
        x.years(0);
        doc.dueStatus(x, 3, 0, 0, 0, 0);
        Bench.found(x, "sc0;wd30;wd1r1;nf1;n");
        x.dip(0, 0);
        x.dip(0, 2);
        doc.dueStatus(x, 4, 0, 0, 0, 0);
        x.scratch(1, 10);
        doc.dueStatus(x, 4, 1, 0, 0, 0);
        x.dip(0, 1);
        x.blot(1);
        x.water(1);
        x.fill(0);
        doc.dueStatus(x, 4, 1, 4, 0, 0);
        x.dip(1, 1);
        doc.dueStatus(x, 4, 1, 4, 1, 0);
        for (int i = 0; i < 16; i++) {
            x.years(60);
        }
        x.years(61);
        doc.dueStatus(x, 4, 2, 4, 1, 0);
    }

    private void rule() {
        DrownedNames x = Bench.ministry("sd3c7;wd9;nf1;n");
        doc.says(6, "0 DROPS of a SYLLABLE, 1 COINS now.");
        doc.due("drops", x.rule(0), 3);
        doc.due("coins", x.rule(1), 7);
        x.fill(0);
        doc.due("coins now", x.rule(1), 6);
        doc.due("coins none", Bench.ministry("sc0;w;nf1;n").rule(1), 0);
        doc.says(6, "NONE: no MINISTRY");
        doc.due("rule(0)", new DrownedNames().rule(0), NONE);
        doc.due("rule(1)", new DrownedNames().rule(1), NONE);
        doc.says(6, "no such what.");
        for (int what : new int[] {LEAST, -1, 2, MOST}) {
            doc.due("rule(" + what + ")", x.rule(what), NONE);
        }
    }

    private void name() {
        doc.says(7, "Of a NAME: 0 SYLLABLES, 1 whom he KNOWS, 2 whether FOREIGN, 3 the WELL (NONE: free), 4 DROPS ABOVE him, "
                + "5 how much he is MISSED.");
        DrownedNames x = Bench.ministry(OFFICE);
        x.dip(3, 2);
        x.dip(0, 2);
        x.dip(2, 1);
        int[][] want = {{2, 1, 0, 2, 0, 2}, {3, 2, 0, NONE, 0, 3}, {2, 1, 1, 1, 0, 4}, {4, 2, 0, 2, 2, 4}};
        for (int name = 0; name < 4; name++) {
            for (int what = 0; what < 6; what++) {
                doc.due("name(" + name + ", " + what + ")", x.name(name, what), want[name][what]);
            }
        }
        doc.says(7, "NoSuchElementException: no such ones.");
        for (int name : new int[] {LEAST, -1, 4, 7, MOST}) {
            doc.dueNoSuchName(x, name, 0);
        }
        for (int what : new int[] {LEAST, -1, 6, MOST}) {
            doc.dueNoSuchName(x, 0, what);
            doc.dueNoSuchName(x, 4, what);
        }
        doc.dueNoSuchName(new DrownedNames(), 0, 0);
        doc.due("no status", Sight.ofStatus(x), "status 0 0 0 0 0");
    }

    private void well() {
        doc.says(8, "Of a WELL: 0 DEPTH, 1 whether RED, 2 ROOM, 3 LONG, as now.");
        DrownedNames x = Bench.ministry(OFFICE);
        x.dip(1, 0);
        x.dip(0, 0);
        x.fill(0);
        int[][] want = {{9, 0, 4, 2}, {5, 1, 5, 0}, {30, 0, 30, 0}};
        for (int well = 0; well < 3; well++) {
            for (int what = 0; what < 4; what++) {
                doc.due("well(" + well + ", " + what + ")", x.well(well, what), want[well][what]);
            }
        }
        doc.says(8, "NONE: no such ones.");
        for (int well : new int[] {LEAST, -1, 3, 4, MOST}) {
            doc.due("well(" + well + ", 0)", x.well(well, 0), NONE);
        }
        for (int what : new int[] {LEAST, -1, 4, MOST}) {
            doc.due("well(0, " + what + ")", x.well(0, what), NONE);
        }
        doc.due("no ministry", new DrownedNames().well(0, 0), NONE);
    }

    private void file() {
        doc.says(9, "Of a FILE: 0, 1 its NAMES, 2 GAPS now.");
        DrownedNames x = Bench.ministry(OFFICE);
        int[][] want = {{0, 1, 1}, {2, 3, 2}, {3, 0, 2}};
        x.dip(0, 0);
        x.dip(2, 1);
        x.dip(3, 2);
        for (int file = 0; file < 3; file++) {
            for (int what = 0; what < 3; what++) {
                doc.due("file(" + file + ", " + what + ")", x.file(file, what), want[file][what]);
            }
        }
        doc.says(9, "NONE: no such ones.");
        for (int file : new int[] {LEAST, -1, 3, 6, MOST}) {
            doc.due("file(" + file + ", 0)", x.file(file, 0), NONE);
        }
        for (int what : new int[] {LEAST, -1, 3, MOST}) {
            doc.due("file(0, " + what + ")", x.file(0, what), NONE);
        }
        doc.due("no file", Bench.ministry("w;nf1;n").file(0, 0), NONE);
        doc.due("no ministry", new DrownedNames().file(0, 0), NONE);
    }

    private void law() {
        doc.says(10, "The LAW that holds (NONE: none).");
        DrownedNames x = Bench.ministry("w;ns5f1;n");
        doc.due("none", x.law(NONE), true);
        doc.due("count(5)", x.count(5), NONE);
        for (int law = 0; law < 4; law++) {
            Bench.tell(x, "y:1" + law);
            x.text(1);
        }
        doc.due("none holds by itself", x.name(0, 5), 7);
        for (int law = 3; law >= 0; law--) {
            doc.due("law(" + law + ")", x.law(law), true);
            doc.due("count(5)", x.count(5), law);
            doc.due("missed by it", x.name(0, 5), 10 + law);
        }
        doc.due("none", x.law(NONE), true);
        doc.due("count(5)", x.count(5), NONE);
        doc.due("missed without", x.name(0, 5), 7);
        doc.says(10, "False: no such one.");
        x.law(2);
        for (int law : new int[] {LEAST, -2, 4, MOST}) {
            doc.due("law(" + law + ")", x.law(law), false);
        }
        doc.due("the one that held", x.count(5), 2);
        DrownedNames none = new DrownedNames();
        doc.due("no law at all", none.law(0), false);
        doc.due("none holds", none.count(5), NONE);
    }

    private void dip() {
        doc.says(11, "DIPPED: ROOM then.");
        DrownedNames x = Bench.ministry(OFFICE);
        doc.due("dip(3, 0)", x.dip(3, 0), 4);
        doc.due("dip(1, 0)", x.dip(1, 0), 1);
        doc.due("dip(2, 1)", x.dip(2, 1), 3);
        doc.says(11, "NONE: no such ones (STATUS 0)");
        for (int bad : new int[] {LEAST, -1, 4, MOST}) {
            doc.due("dip(" + bad + ", 2)", x.dip(bad, 2), NONE);
            doc.due("dip(0, " + bad + ")", x.dip(0, bad), NONE);
        }
        doc.due("dip(0, 3)", x.dip(0, 3), NONE);
        doc.dueStatus(x, 9, 0, 0, 0, 0);
        doc.says(11, "not free (2)");
        doc.due("dip(3, 2)", x.dip(3, 2), NONE);
        doc.due("dip(3, 0)", x.dip(3, 0), NONE);
        doc.dueStatus(x, 9, 0, 2, 0, 0);
        doc.says(11, "no ROOM, not his colour (3).");
        doc.due("dip(0, 0)", x.dip(0, 0), NONE);
        doc.dueStatus(x, 9, 0, 2, 1, 0);
        doc.due("dip(0, 1)", x.dip(0, 1), NONE);
        doc.dueStatus(x, 9, 0, 2, 2, 0);
        doc.due("three acts", x.count(12), 3);
        doc.due("who", x.count(8), 14);
    }

    private void scratch() {
        doc.says(12, "SCRATCHED: who comes up (NONE: nobody; it is an ACT all the same).");
        DrownedNames x = stack();
        doc.due("nobody", x.scratch(2, 1), NONE);
        doc.due("an act", x.count(12), 4);
        doc.due("undone", x.undo(), 3);
        doc.due("nobody less", x.count(8), 11);
        doc.due("1 comes up", x.scratch(2, 5), 1);
        doc.due("an act", x.count(12), 4);
        doc.says(12, "-2: no such WELL (STATUS 0)");
        for (int well : new int[] {LEAST, -1, 3, MOST}) {
            doc.due("scratch(" + well + ", 5)", x.scratch(well, 5), REFUSED);
        }
        doc.dueStatus(x, 4, 0, 0, 0, 0);
        doc.says(12, "out of bounds (1)");
        for (int n : new int[] {LEAST, -1, 0, 10, MOST}) {
            doc.due("scratch(2, " + n + ")", x.scratch(2, n), REFUSED);
        }
        doc.dueStatus(x, 4, 5, 0, 0, 0);
        doc.says(12, "nobody in it (2).");
        doc.due("scratch(0, 1)", x.scratch(0, 1), REFUSED);
        doc.due("scratch(1, 9)", x.scratch(1, 9), REFUSED);
        doc.dueStatus(x, 4, 5, 2, 0, 0);
        doc.due("acts", x.count(12), 4);
    }

    private void blot() {
        doc.says(13, "BLOTTED: who comes up.");
        DrownedNames x = Bench.ministry("sc5;wd9;wd9;nf1;n;n");
        x.dip(2, 0);
        x.dip(0, 0);
        x.dip(1, 0);
        doc.due("blot(0)", x.blot(0), 1);
        doc.due("blot(0)", x.blot(0), 0);
        doc.says(13, "-2: no such WELL (STATUS 0)");
        for (int well : new int[] {LEAST, -1, 2, MOST}) {
            doc.due("blot(" + well + ")", x.blot(well), REFUSED);
        }
        doc.dueStatus(x, 4, 0, 0, 0, 0);
        doc.says(13, "nobody in it (2)");
        doc.due("blot(1)", x.blot(1), REFUSED);
        doc.dueStatus(x, 4, 0, 1, 0, 0);
        doc.says(13, "too few COINS (4).");
        doc.due("blot(0)", x.blot(0), REFUSED);
        doc.dueStatus(x, 4, 0, 1, 0, 1);
        doc.due("acts", x.count(12), 5);
        doc.due("he lies there", x.layer(0, 0), 2);
        doc.due("coins", x.rule(1), 1);
    }

    private void water() {
        doc.says(14, "WATER: how many come up.");
        DrownedNames x = Bench.ministry("sc14;wd9;wd9;nf1;n;n;n");
        x.dip(0, 0);
        x.dip(2, 0);
        x.dip(1, 0);
        x.dip(3, 1);
        doc.due("three", x.water(0), 3);
        doc.due("one", x.water(1), 1);
        doc.due("all are free", x.count(8), 0);
        doc.says(14, "NONE: no such WELL (STATUS 0)");
        for (int well : new int[] {LEAST, -1, 2, MOST}) {
            doc.due("water(" + well + ")", x.water(well), NONE);
        }
        doc.dueStatus(x, 4, 0, 0, 0, 0);
        doc.says(14, "nobody in it (2)");
        doc.due("water(0)", x.water(0), NONE);
        doc.dueStatus(x, 4, 0, 1, 0, 0);
        doc.says(14, "too few COINS (4).");
        x.dip(0, 0);
        doc.due("four coins", x.rule(1), 4);
        doc.due("water(0)", x.water(0), NONE);
        doc.dueStatus(x, 4, 0, 1, 0, 1);
        doc.due("he lies there", x.layer(0, 0), 0);
        doc.due("acts", x.count(12), 7);
    }

    private void fill() {
        doc.says(15, "FILLED: DEPTH then.");
        DrownedNames x = Bench.ministry("sc2;wd29;wd5;nf1;n");
        doc.due("fill(0)", x.fill(0), 30);
        doc.due("depth", x.well(0, 0), 30);
        doc.says(15, "NONE: no such WELL (STATUS 0)");
        for (int well : new int[] {LEAST, -1, 2, MOST}) {
            doc.due("fill(" + well + ")", x.fill(well), NONE);
        }
        doc.dueStatus(x, 4, 0, 0, 0, 0);
        doc.says(15, "thirty (2)");
        doc.due("fill(0)", x.fill(0), NONE);
        doc.dueStatus(x, 4, 0, 1, 0, 0);
        doc.due("coins", x.rule(1), 1);
        doc.says(15, "too few COINS (4).");
        doc.due("fill(1)", x.fill(1), 6);
        doc.due("fill(1)", x.fill(1), NONE);
        doc.dueStatus(x, 4, 0, 1, 0, 1);
        doc.due("depth", x.well(1, 0), 6);
        doc.due("acts", x.count(12), 2);
    }

    private void give() {
        doc.says(16, "COINS are given: COINS then.");
        DrownedNames x = Bench.ministry("sc0;w;nf1;n");
        doc.due("one", x.give(1), 1);
        doc.due("fifty", x.give(50), 51);
        doc.says(16, "NONE: no MINISTRY (STATUS 0)");
        DrownedNames none = new DrownedNames();
        doc.due("give(1)", none.give(1), NONE);
        doc.due("give(0)", none.give(0), NONE);
        doc.dueStatus(none, 2, 0, 0, 0, 0);
        doc.says(16, "out of bounds, above 999 (1).");
        for (int n : new int[] {LEAST, -1, 0, 51, MOST}) {
            doc.due("give(" + n + ")", x.give(n), NONE);
        }
        doc.dueStatus(x, 0, 5, 0, 0, 0);
        for (int i = 0; i < 18; i++) {
            x.give(50);
        }
        doc.due("951", x.rule(1), 951);
        doc.due("1000", x.give(49), NONE);
        doc.dueStatus(x, 0, 6, 0, 0, 0);
        doc.due("999", x.give(48), 999);
        doc.due("1000", x.give(1), NONE);
        doc.dueStatus(x, 0, 7, 0, 0, 0);
    }

    private void years() {
        doc.says(17, "YEARS (1 .. 60): the YEAR.");
        DrownedNames x = Bench.ministry("w;nf1;n");
        doc.due("one", x.years(1), 1);
        doc.due("sixty", x.years(60), 61);
        doc.says(17, "NONE: no MINISTRY (STATUS 0)");
        DrownedNames none = new DrownedNames();
        doc.due("years(1)", none.years(1), NONE);
        doc.due("years(61)", none.years(61), NONE);
        doc.dueStatus(none, 2, 0, 0, 0, 0);
        doc.says(17, "out of bounds (1)");
        for (int n : new int[] {LEAST, -1, 0, 61, MOST}) {
            doc.due("years(" + n + ")", x.years(n), NONE);
        }
        doc.dueStatus(x, 0, 5, 0, 0, 0);
        doc.due("the year", x.count(6), 61);
        doc.says(17, "beyond 999 (4).");
        for (int i = 0; i < 15; i++) {
            x.years(60);
        }
        doc.due("961", x.count(6), 961);
        doc.due("1000", x.years(39), NONE);
        doc.due("none of them went by", x.count(6), 961);
        doc.due("999", x.years(38), 999);
        doc.due("1000", x.years(1), NONE);
        doc.due("1059", x.years(60), NONE);
        doc.dueStatus(x, 0, 5, 0, 0, 3);
    }

    private void flies() {
        doc.says(18, "FLIES.");
        DrownedNames x = new DrownedNames();
        doc.due("at first", x.count(9), 3);
        doc.due("none", x.flies(0), true);
        doc.due("count(9)", x.count(9), 0);
        doc.due("nine", x.flies(9), true);
        doc.due("count(9)", x.count(9), 9);
        doc.says(18, "False: out of bounds");
        for (int v : new int[] {LEAST, -1, 10, MOST}) {
            doc.due("flies(" + v + ")", x.flies(v), false);
        }
        doc.due("count(9)", x.count(9), 9);
        doc.says(18, "it is so.");
        doc.due("nine", x.flies(9), false);
        doc.due("three", x.flies(3), true);
        doc.due("three", x.flies(3), false);
        doc.due("at first", new DrownedNames().flies(3), false);
        doc.due("no status", Sight.ofStatus(x), "status 0 0 0 0 0");
    }

    private void status() {
        doc.says(20, "STATUS.");
        DrownedNames x = Bench.ministry("sc0;wd2;nf1;n");
        doc.dueStatus(x, 0, 0, 0, 0, 0);
        x.dip(2, 0);
        x.give(0);
        x.give(51);
        x.blot(0);
        x.scratch(0, 1);
        x.water(0);
        x.dip(0, 0);
        for (int i = 0; i < 4; i++) {
            x.dip(1, 0);
        }
        for (int i = 0; i < 5; i++) {
            x.fill(0);
        }
        doc.dueStatus(x, 1, 2, 3, 4, 5);
        doc.says(20, "NONE: no such what.");
        for (int what : new int[] {LEAST, -1, 5, MOST}) {
            doc.due("status(" + what + ")", x.status(what), NONE);
        }
    }

    private void undo() {
        doc.says(21, "The latest ACT is UNDONE: how many still can be.");
        DrownedNames x = Bench.ministry("sc20;wd9;wd9;nf1;n;n");
        String[] then = new String[9];
        for (int i = 0; i < 9; i++) {
            then[i] = Sight.ofState(x);
            switch (i) {
                case 0, 1, 2 -> x.dip(i, 0);
                case 3 -> x.scratch(0, 4);
                case 4 -> x.blot(0);
                case 5 -> x.fill(1);
                case 6 -> x.water(0);
                case 7 -> x.give(9);
                default -> x.years(1);
            }
        }
        for (int left = 8; left >= 0; left--) {
            doc.due("undo", x.undo(), left);
            doc.due("as ahead of it", Sight.ofState(x), then[left]);
        }
        doc.says(21, "NONE: none.");
        doc.due("undo", x.undo(), NONE);
        doc.due("as it was", Sight.ofState(x), then[0]);
        doc.due("no ministry", new DrownedNames().undo(), NONE);
        x.dip(0, 0);
        x.image();
        x.back();
        doc.due("behind back", x.undo(), NONE);
    }

    private void log() {
        doc.says(22, "LOG, the latest (i 0), the one ahead of it (1) ..: 0 who was DROWNED, 1 how much MISSED.");
        DrownedNames x = Bench.ministry(OFFICE);
        x.years(1);
        x.dip(3, 0);
        x.years(1);
        x.dip(1, 0);
        x.years(1);
        int[][] want = {{10, 11}, {8, 4}, {0, 0}};
        for (int i = 0; i < want.length; i++) {
            doc.due("log(" + i + ", 0)", x.log(i, 0), want[i][0]);
            doc.due("log(" + i + ", 1)", x.log(i, 1), want[i][1]);
        }
        x.blot(0);
        doc.due("as it was then", x.log(0, 0), 10);
        doc.says(22, "NONE: no such ones.");
        for (int i : new int[] {LEAST, -1, 3, 59, 60, MOST}) {
            doc.due("log(" + i + ", 0)", x.log(i, 0), NONE);
            doc.due("log(" + i + ", 1)", x.log(i, 1), NONE);
        }
        for (int what : new int[] {LEAST, -1, 2, MOST}) {
            doc.due("log(0, " + what + ")", x.log(0, what), NONE);
        }
        doc.due("no year yet", Bench.ministry(OFFICE).log(0, 0), NONE);
        doc.due("no ministry", new DrownedNames().log(0, 0), NONE);
        x.years(60);
        doc.due("the sixtieth", x.log(59, 0), 8);
        doc.due("the 61st", x.log(60, 0), NONE);
    }
}
