import java.math.BigInteger;

/** Edges of DECADES, IMAGES, counts and of what is refused, sentence by sentence: promises 19, 38 to 40. */
final class KeptEdges {
    private static final int NONE = Bench.NONE;
    private static final int TERMS = Sentences.TERMS;
    private static final int LEAST = Integer.MIN_VALUE;
    private static final int MOST = Integer.MAX_VALUE;
    private static final String OFFICE = "sc6;wd8;wd5r1;wd9;ns2f1;ns3f2;ns2f1o1;ns4f2;ns1;f;fa2b3;fa3b0";
    private static final long[] SEEDS = {0, 1, -1, 7, 4711, Long.MAX_VALUE, Long.MIN_VALUE, 0x123456789ABCDEFL};
    private static final BigInteger ROUND = BigInteger.ONE.shiftLeft(64);

    private final Sentences doc;
    private BigInteger drawn;

    KeptEdges(Sentences doc) {
        this.doc = doc;
    }

    void go() {
        draws();
        decadesTerms();
        decades();
        imageTerms();
        image();
        back();
        count();
        refused();
        constants();
    }

    private int draw(int j) {
        drawn = drawn.multiply(new BigInteger("6364136223846793005")).add(new BigInteger("1442695040888963407")).mod(ROUND);
        return drawn.shiftRight(33).mod(BigInteger.valueOf(j)).intValue();
    }

    private void seed(long seed) {
        drawn = BigInteger.valueOf(seed).mod(ROUND);
    }

    /** What a YEAR of DECADES does, by single ACTS; the STATUS of these is not its own. */
    private void yearByActs(DrownedNames x, int flies) {
        int name = draw(x.count(0));
        int well = draw(x.count(1));
        x.dip(name, well);
        if (draw(10) < flies) {
            well = draw(x.count(1));
            int deep = draw(9) + 1;
            x.scratch(well, deep);
        }
        x.years(1);
    }

    private void dueAsByActs(int flies, long seed) {
        DrownedNames x = Bench.ministry(OFFICE);
        DrownedNames twin = Bench.ministry(OFFICE);
        x.flies(flies);
        doc.due("decades(30, " + seed + ")", x.decades(30, seed), 30);
        seed(seed);
        for (int year = 0; year < 30; year++) {
            yearByActs(twin, flies);
        }
        doc.due("flies " + flies + ", seed " + seed, Sight.ofState(x), Sight.ofState(twin));
    }

    private void draws() {
        doc.says(TERMS, "x, at first the seed, becomes x times 6364136223846793005 and 1442695040888963407 (64 bits, going round)");
        for (long seed : SEEDS) {
            dueAsByActs(5, seed);
        }
        doc.says(TERMS, "a draw of j: (x shifted right by 33, without sign) modulo j.");
        // By seed 0 the first x is 1442695040888963407, by -1 it is below 0 as a number with a sign.
        for (long seed : new long[] {0, -1, -2, -3}) {
            DrownedNames x = Bench.ministry("wd30;nf1;n;n;n;n;n;n");
            x.flies(0);
            x.decades(1, seed);
            seed(seed);
            doc.due("who is drowned by seed " + seed, x.count(8), 1 << draw(7));
        }
        seed(0);
        doc.due("the first draw of 7 by seed 0", draw(7), 1442695040888963407L / (1L << 33) % 7);
        doc.says(TERMS, "DECADES by a seed: n (1 .. 60) YEARS, ahead of each: a draw of how many NAMES there are, "
                + "a draw of how many WELLS: he is DIPPED, if it can be");
        for (long seed : SEEDS) {
            dueAsByActs(0, seed);
        }
        doc.due("none", Bench.ministry(OFFICE).decades(0, 1), NONE);
        doc.due("one", Bench.ministry(OFFICE).decades(1, 1), 1);
        doc.due("sixty", Bench.ministry(OFFICE).decades(60, 1), 60);
        doc.due("61", Bench.ministry(OFFICE).decades(61, 1), NONE);
        doc.says(TERMS, "a draw of 10: below FLIES (0 .. 9; 3 at first) a draw of how many WELLS, a draw of 9 and 1: "
                + "SCRATCHED so deep.");
        for (int flies = 0; flies <= 9; flies++) {
            dueAsByActs(flies, 99 - flies);
        }
        dueAsByActs(3, 12345);
        doc.due("3 at first", new DrownedNames().count(9), 3);
    }

    private void decadesTerms() {
        doc.says(TERMS, "No STATUS.");
        DrownedNames x = Bench.ministry("wd0;wd0r1;nf1;no1");
        x.flies(9);
        x.decades(60, 5);
        doc.due("nobody could be dipped", x.count(8), 0);
        x.decades(0, 1);
        x.decades(61, 1);
        doc.dueStatus(x, 0, 0, 0, 0, 0);
        doc.says(TERMS, "Each YEAR with what is ahead of it is one ACT.");
        DrownedNames y = Bench.ministry(OFFICE);
        y.flies(7);
        y.decades(25, 7);
        doc.due("25 acts", y.count(12), 25);
        for (int years = 24; years >= 0; years--) {
            doc.due("undo", y.undo(), years);
            DrownedNames shorter = Bench.ministry(OFFICE);
            shorter.flies(7);
            shorter.decades(years, 7);
            doc.due("as after " + years, Sight.ofState(y), Sight.ofState(shorter));
        }
        y.decades(60, 7);
        doc.due("the latest forty", y.count(12), 40);
    }

    private void decades() {
        doc.says(19, "DECADES: the YEAR.");
        DrownedNames x = Bench.ministry(OFFICE);
        doc.due("one", x.decades(1, 1), 1);
        doc.due("sixty more", x.decades(60, -1), 61);
        doc.says(19, "NONE: no MINISTRY");
        DrownedNames none = new DrownedNames();
        doc.due("decades(1, 1)", none.decades(1, 1), NONE);
        doc.due("no status", Sight.ofStatus(none), "status 0 0 0 0 0");
        doc.says(19, "out of bounds");
        for (int n : new int[] {LEAST, -1, 0, 61, MOST}) {
            doc.due("decades(" + n + ", 1)", x.decades(n, 1), NONE);
        }
        doc.due("the year", x.count(6), 61);
        doc.says(19, "beyond 999.");
        for (int i = 0; i < 15; i++) {
            x.decades(60, i);
        }
        doc.due("961", x.count(6), 961);
        doc.due("1000", x.decades(39, 1), NONE);
        doc.due("none went by", x.count(6), 961);
        doc.due("999", x.decades(38, 1), 999);
        doc.due("1000", x.decades(1, 1), NONE);
        doc.due("no status", Sight.ofStatus(x), "status 0 0 0 0 0");
    }

    private void imageTerms() {
        doc.says(TERMS, "An IMAGE keeps who lies where, DEPTHS, COINS, UNREST, the YEAR, the LOG");
        DrownedNames x = Bench.ministry(OFFICE);
        x.dip(3, 0);
        x.dip(0, 0);
        x.dip(2, 1);
        x.fill(1);
        x.years(3);
        String then = Sight.ofState(x);
        x.image();
        doc.due("nothing changes by it", Sight.ofState(x), then);
        x.undo();
        x.scratch(0, 4);
        x.fill(2);
        x.give(9);
        x.years(9);
        x.back();
        doc.due("so again", Sight.ofState(x), then);
        doc.due("who lies lowest", x.layer(0, 0), 3);
        doc.says(TERMS, "BACK: they are so again (no ACT can be UNDONE then).");
        Bench.tell(x, "y:7");
        x.law(x.text(1));
        x.flies(9);
        x.seen(0, 1);
        x.scratch(2, 10);
        Bench.tell(x, "abc");
        x.years(60);
        x.years(60);
        String rest = Sight.ofRest(x);
        String status = Sight.ofStatus(x);
        x.back();
        doc.due("so again", Sight.ofState(x), then);
        doc.due("the rest stays as it is", Sight.ofRest(x), rest);
        doc.due("status, too", Sight.ofStatus(x), status);
        doc.due("acts", x.count(12), 0);
        doc.due("undo", x.undo(), NONE);
    }

    private void image() {
        doc.says(38, "An IMAGE (instead of the one ahead): the YEAR.");
        DrownedNames x = Bench.ministry(OFFICE);
        doc.due("year 0", x.image(), 0);
        x.years(2);
        x.dip(0, 0);
        doc.due("year 2", x.image(), 2);
        doc.due("acts stay", x.count(12), 3);
        x.years(5);
        doc.due("the later one", x.back(), 2);
        doc.due("who", x.count(8), 1);
        doc.says(38, "NONE: no MINISTRY.");
        DrownedNames none = new DrownedNames();
        doc.due("image()", none.image(), NONE);
        doc.due("none by that", none.back(), NONE);
        Bench.found(none, OFFICE);
        doc.due("nor later", none.back(), NONE);
    }

    private void back() {
        doc.says(39, "BACK: the YEAR.");
        DrownedNames x = Bench.ministry(OFFICE);
        x.years(4);
        x.image();
        doc.due("at once", x.back(), 4);
        x.years(60);
        doc.due("later", x.back(), 4);
        x.years(60);
        doc.due("again", x.back(), 4);
        doc.due("the log", x.count(11), 4);
        doc.due("four more", x.years(4), 8);
        doc.due("the log", x.count(11), 8);
        doc.says(39, "NONE: no IMAGE of this MINISTRY.");
        doc.due("no ministry", new DrownedNames().back(), NONE);
        DrownedNames y = Bench.ministry(OFFICE);
        y.years(4);
        doc.due("no image", y.back(), NONE);
        doc.due("acts stay", y.count(12), 4);
        doc.due("another ministry", Bench.found(x, OFFICE), 5);
        doc.due("none of this one", x.back(), NONE);
        x.image();
        doc.due("of this one", x.back(), 0);
        Bench.tell(x, "w;n");
        x.text(0);
        x.years(1);
        doc.due("a ministry that was refused is none", x.back(), 0);
    }

    private void count() {
        doc.says(40, "0 NAMES, 1 WELLS, 2 FILES, 3 LAWS, 4 bytes of the TAPE, 5 the LAW that holds (NONE), 6 the YEAR, "
                + "7 UNREST, 8 who is DROWNED (bits), 9 FLIES, 10 SEEN, 11 how long the LOG is, 12 ACTS that can be UNDONE.");
        DrownedNames x = Bench.ministry(OFFICE);
        Bench.hold(x, "y:1");
        Bench.hold(x, "y:2");
        x.law(0);
        Bench.tell(x, "abc");
        x.dip(0, 0);
        x.dip(3, 2);
        x.years(1);
        x.years(1);
        x.flies(8);
        x.seen(0, 1);
        x.seen(1, 1);
        x.seen(2, 1);
        int[] want = {5, 3, 3, 2, 3, 0, 2, 4, 9, 8, 3, 2, 4};
        for (int what = 0; what < want.length; what++) {
            doc.due("count(" + what + ")", x.count(what), want[what]);
        }
        x.law(NONE);
        doc.due("none holds", x.count(5), NONE);
        x.years(60);
        doc.due("the log", x.count(11), 60);
        doc.due("acts", x.count(12), 40);
        DrownedNames full = Bench.ministry("w;w;w;w;nf1;n;n;n;n;n;n;f;f;f;f;f;f");
        int[] most = {7, 4, 6};
        for (int what = 0; what < most.length; what++) {
            doc.due("full: count(" + what + ")", full.count(what), most[what]);
        }
        doc.says(40, "HIDDEN for others.");
        for (int what : new int[] {LEAST, -2, -1, 13, MOST}) {
            doc.due("count(" + what + ")", x.count(what), Bench.HIDDEN);
            doc.due("count(" + what + ") without a ministry", new DrownedNames().count(what), Bench.HIDDEN);
        }
    }

    private void refused() {
        doc.says(TERMS, "What is refused answers as told and changes nothing but STATUS.");
        DrownedNames x = Bench.ministry("sc1;wd4;wd30r1;wd1;nf1;n;no1;n;f");
        Bench.hold(x, "y:s");
        x.dip(0, 0);
        x.years(2);
        x.seen(0, 1);
        Bench.tell(x, "w;nf1;n;;");
        x.blot(0);
        x.dip(0, 0);
        x.fill(0);
        x.image();
        String then = Sight.ofAll(x);
        refuseActs(x);
        refuseOthers(x);
        doc.due("all as it was", Sight.ofAll(x), then);
        doc.dueStatus(x, 6, 6, 5, 2, 0);
        DrownedNames poor = Bench.ministry("sc0;wd4;nf1;n");
        poor.dip(0, 0);
        String before = Sight.ofAll(poor);
        doc.due("blot", poor.blot(0), -2);
        doc.due("water", poor.water(0), NONE);
        doc.due("fill", poor.fill(0), NONE);
        doc.due("back", poor.back(), NONE);
        doc.due("all as it was", Sight.ofAll(poor), before);
        doc.dueStatus(poor, 0, 0, 0, 0, 3);
        DrownedNames none = new DrownedNames();
        before = Sight.ofAll(none);
        refuseOthers(none);
        none.years(1);
        none.give(1);
        none.image();
        none.undo();
        doc.due("without a ministry, all as it was", Sight.ofAll(none), before);
    }

    private void refuseActs(DrownedNames x) {
        doc.due("dip", x.dip(4, 0), NONE);
        doc.due("dip", x.dip(1, 3), NONE);
        doc.due("dip", x.dip(0, 0), NONE);
        doc.due("dip", x.dip(1, 2), NONE);
        doc.due("dip", x.dip(1, 1), NONE);
        doc.due("scratch", x.scratch(3, 1), -2);
        doc.due("scratch", x.scratch(0, 0), -2);
        doc.due("scratch", x.scratch(0, 10), -2);
        doc.due("scratch", x.scratch(1, 1), -2);
        doc.due("blot", x.blot(3), -2);
        doc.due("blot", x.blot(1), -2);
        doc.due("water", x.water(-1), NONE);
        doc.due("water", x.water(1), NONE);
        doc.due("fill", x.fill(3), NONE);
        doc.due("fill", x.fill(1), NONE);
        doc.due("give", x.give(0), NONE);
        doc.due("give", x.give(51), NONE);
        doc.due("years", x.years(0), NONE);
        doc.due("years", x.years(61), NONE);
    }

    private void refuseOthers(DrownedNames x) {
        doc.due("end", x.end(-1), false);
        doc.due("end", x.end(200), false);
        doc.due("text", x.text(0), NONE);
        doc.due("text", x.text(1), NONE);
        doc.due("text", x.text(2), NONE);
        doc.due("law", x.law(-2), false);
        doc.due("law", x.law(1), false);
        doc.due("flies", x.flies(3), false);
        doc.due("flies", x.flies(10), false);
        doc.due("decades", x.decades(0, 1), NONE);
        doc.due("decades", x.decades(61, 1), NONE);
        doc.due("seen", x.seen(1, 0), NONE);
        doc.due("seen", x.seen(0, 3), NONE);
    }

    private void constants() {
        doc.says(TERMS, "The constants: `NONE = -1`: None; refused.");
        doc.due("NONE", DrownedNames.NONE, -1);
        doc.says(TERMS, "`HIDDEN = -1000000`: Not told.");
        doc.due("HIDDEN", DrownedNames.HIDDEN, -1000000);
    }
}
