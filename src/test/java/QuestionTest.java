/** Promises 23 to 37: what is asked apart, from as it is now. */
public final class QuestionTest {
    private static final Bench BENCH = new Bench("QuestionTest");
    private static final int NONE = Bench.NONE;

    public static void main(String[] args) {
        layers();
        reaches();
        factions();
        factionRows();
        silences();
        gone();
        goneBounds();
        looks();
        games();
        rests();
        odds();
        shares();
        best();
        bestByLaw();
        nets();
        amnesties();
        mosts();
        mostOfAll();
        known();
        quiet();
        apart();
        BENCH.finish();
    }

    private static void layers() {
        DrownedNames x = Bench.ministry("wd20;wd20;nf1;n;n");
        x.dip(2, 1);
        x.dip(0, 1);
        BENCH.due("the lowest", x.layer(1, 0), 2);
        BENCH.due("over him", x.layer(1, 1), 0);
        BENCH.due("nobody", x.layer(1, 2), NONE);
        BENCH.due("nobody", x.layer(1, -1), NONE);
        BENCH.due("nobody in it", x.layer(0, 0), NONE);
        BENCH.due("no such well", x.layer(2, 0), NONE);
        BENCH.due("no such well", x.layer(-1, 0), NONE);
        BENCH.due("free ones lie nowhere", x.layer(NONE, 0), NONE);
        x.scratch(1, 4);
        BENCH.due("sunk", x.layer(1, 0), 0);
    }

    private static void reaches() {
        DrownedNames x = Bench.ministry("wd30;ns1f1;ns4f0;ns5;ns1");
        x.dip(3, 0);
        x.dip(2, 0);
        x.dip(1, 0);
        BENCH.due("uppermost", x.reach(1), 4);
        BENCH.due("nine", x.reach(2), 9);
        BENCH.due("ten: by none", x.reach(3), NONE);
        BENCH.due("free", x.reach(0), NONE);
        BENCH.due("no such name", x.reach(4), NONE);
        BENCH.due("no such name", x.reach(-1), NONE);
    }

    private static void factions() {
        DrownedNames x = Bench.ministry("wd5;wd7r1;wd5;nf1;ns3;n;ns5o1");
        BENCH.due("two in one", x.faction(3, 0), 0);
        BENCH.due("one well", x.faction(3, 1), 1);
        BENCH.due("three in two", x.faction(7, 0), 2);
        BENCH.due("two wells", x.faction(7, 1), 2);
        BENCH.due("all", x.faction(15, 0), 21);
        BENCH.due("three wells", x.faction(15, 1), 3);
        BENCH.due("one alone", x.faction(8, 0), 1);
        BENCH.due("one alone", x.faction(2, 0), 0);
        BENCH.due("the first alone", x.faction(1, 1), 1);
        BENCH.due("nobody", x.faction(0, 0), NONE);
        BENCH.due("no such set", x.faction(16, 0), NONE);
        BENCH.due("no such set", x.faction(-1, 0), NONE);
        BENCH.due("no such what", x.faction(1, 2), NONE);
        BENCH.due("no such what", x.faction(1, -1), NONE);
        x.dip(1, 0);
        BENCH.due("not all free", x.faction(3, 1), NONE);
        BENCH.due("what is left: two and two", x.faction(5, 0), 22);
        BENCH.due("one well", x.faction(5, 1), 1);
        x.dip(0, 2);
        BENCH.due("into the lowest with room", x.faction(4, 0), 0);
        DrownedNames full = Bench.ministry("wd3;nf1;n");
        BENCH.due("by none", full.faction(3, 0), NONE);
        BENCH.due("by none", full.faction(3, 1), NONE);
    }

    private static void factionRows() {
        DrownedNames x = Bench.ministry("wd2;wd4;wd4;wd6;nf1;n;n;n");
        BENCH.due("three: the only one of all", x.faction(7, 0), 333);
        BENCH.due("two: the least", x.faction(5, 0), 11);
        BENCH.due("four: the least of two wells", x.faction(15, 0), 333);
        BENCH.due("four: two wells", x.faction(15, 1), 2);
        DrownedNames y = Bench.ministry("wd30;wd30;wd30;wd30;ns5f1;ns5;ns5;ns5;ns5;ns5;ns5");
        BENCH.due("seven", y.faction(127, 0), 1);
        BENCH.due("seven", y.faction(127, 1), 2);
        DrownedNames z = Bench.ministry("sd3;wd30;wd30;wd30;wd30;ns5f1;ns5;ns5;ns5;ns5;ns5;ns5");
        BENCH.due("two in each", z.faction(127, 0), 11223);
        BENCH.due("four", z.faction(127, 1), 4);
    }

    private static void silences() {
        DrownedNames none = new DrownedNames();
        BENCH.due("no ministry", none.silence(0), NONE);
        DrownedNames x = Bench.ministry("wd20;nf1;nf2;nf3;nf4;nf3;nf0");
        BENCH.due("nobody", x.silence(0), 0);
        BENCH.due("nobody knows him", x.silence(32), 32);
        BENCH.due("one who knows him", x.silence(1), 33);
        BENCH.due("a chain", x.silence(2), 35);
        BENCH.due("all in the end", x.silence(16), 63);
        BENCH.due("all", x.silence(63), 63);
        BENCH.due("no such set", x.silence(64), NONE);
        BENCH.due("no such set", x.silence(-1), NONE);
        x.dip(1, 0);
        BENCH.due("those drowned, too", x.silence(0), 35);
        BENCH.due("both", x.silence(4), 39);
        BENCH.due("a drowned one told", x.silence(2), 35);
    }

    private static void gone() {
        DrownedNames x = Bench.ministry("wd20;nf1;n;n;n;f;fa1b2;fa2b3");
        BENCH.due("sets of two", x.gone(2, NONE), 6);
        int[] sets = {3, 5, 6, 9, 10, 12};
        for (int i = 0; i < sets.length; i++) {
            BENCH.due("gone(2, " + i + ")", x.gone(2, i), sets[i]);
        }
        BENCH.due("no such one", x.gone(2, 6), NONE);
        BENCH.due("no such one", x.gone(2, -2), NONE);
        BENCH.due("nobody", x.gone(0, 0), 0);
        BENCH.due("nobody", x.gone(0, NONE), 1);
        BENCH.due("sure of nobody", x.sure(0), 0);
        BENCH.due("sure of two", x.sure(2), 0);
        BENCH.due("sure of all", x.sure(4), 15);
        BENCH.due("seen", x.seen(0, 1), 1);
        BENCH.due("seen", x.seen(1, 2), 2);
        BENCH.due("one left", x.gone(2, NONE), 1);
        BENCH.due("it", x.gone(2, 0), 6);
        BENCH.due("sure", x.sure(2), 6);
        BENCH.due("of three one", x.gone(3, NONE), 1);
        BENCH.due("it", x.gone(3, 0), 14);
        BENCH.due("of one none", x.gone(1, NONE), 0);
        BENCH.due("nothing fits", x.sure(1), NONE);
        BENCH.due("nothing fits", x.ask(1), NONE);
        x.dip(0, 0);
        BENCH.due("whoever is drowned now", x.gone(2, 0), 6);
        BENCH.due("seen otherwise", x.seen(0, 2), 3);
        BENCH.due("nothing fits", x.gone(2, NONE), 0);
    }

    private static void goneBounds() {
        DrownedNames none = new DrownedNames();
        BENCH.due("no ministry", none.gone(0, NONE), NONE);
        BENCH.due("no ministry", none.sure(0), NONE);
        BENCH.due("no ministry", none.ask(0), NONE);
        BENCH.due("no ministry", none.seen(0, 0), NONE);
        DrownedNames x = Bench.ministry("wd20;nf1;n;f");
        BENCH.due("more than there are", x.gone(7, NONE), 0);
        BENCH.due("more than there are", x.sure(7), NONE);
        BENCH.due("8", x.gone(8, NONE), NONE);
        BENCH.due("-1", x.gone(-1, NONE), NONE);
        BENCH.due("8", x.sure(8), NONE);
        BENCH.due("-1", x.sure(-1), NONE);
        BENCH.due("8", x.ask(8), NONE);
        BENCH.due("-1", x.ask(-1), NONE);
        BENCH.due("no such file", x.seen(1, 0), NONE);
        BENCH.due("no such file", x.seen(-1, 0), NONE);
        BENCH.due("three gaps", x.seen(0, 3), NONE);
        BENCH.due("-1", x.seen(0, -1), NONE);
        for (int i = 1; i <= 10; i++) {
            BENCH.due("seen " + i, x.seen(0, 1), i);
        }
        BENCH.due("there are ten", x.seen(0, 1), NONE);
        BENCH.due("count(10)", x.count(10), 10);
        BENCH.due("no status", x.status(0) + x.status(1) + x.status(2), 0);
        DrownedNames seven = Bench.ministry("wd20;nf1;n;n;n;n;n;n;fb6");
        BENCH.due("all seven", seven.gone(7, 0), 127);
        BENCH.due("35 of three", seven.gone(3, NONE), 35);
        BENCH.due("the last", seven.gone(3, 34), 112);
        BENCH.due("seen", seven.seen(0, 2), 1);
        BENCH.due("five left", seven.gone(3, NONE), 5);
        BENCH.due("sure", seven.sure(3), 65);
    }

    private static void looks() {
        DrownedNames none = Bench.ministry("wd20;nf1;n");
        BENCH.due("no file", none.ask(1), NONE);
        DrownedNames x = Bench.ministry("wd20;nf1;n;n;n;n;fb4;f;fa2b3;fa0b2");
        BENCH.due("of one: 3 and 2 by each", x.ask(1), 0);
        x.seen(1, 1);
        BENCH.due("of 1 and 2: the first that parts", x.ask(1), 0);
        x.seen(0, 0);
        BENCH.due("one left: the lowest", x.ask(1), 0);
        BENCH.due("of two: 1 with 2 or with 3", x.gone(2, NONE), 2);
        BENCH.due("the fourth alone parts them", x.ask(2), 3);
        DrownedNames y = Bench.ministry("wd20;nf1;n;n;n;f;fa2b3;fa1b2");
        y.seen(0, 1);
        BENCH.due("parted by the third alone", y.ask(1), 2);
        DrownedNames z = Bench.ministry("wd20;nf1;n;n;n;n;f;fa2b3");
        z.seen(0, 1);
        BENCH.due("six sets", z.gone(2, NONE), 6);
        BENCH.due("4 and 2 rather than 6", z.ask(2), 1);
        DrownedNames both = Bench.ministry("wd20;nf1;n;n;n;n;f;fa2b3");
        BENCH.due("of four: 3 with both, 2 with one, by each", both.ask(4), 0);
        both.seen(1, 2);
        BENCH.due("of four: 2 and 1 rather than 3", both.ask(4), 0);
        both.seen(0, 2);
        BENCH.due("one left", both.gone(4, NONE), 1);
        DrownedNames full = Bench.ministry("wd20;nf1;n;n;f;fa1b2");
        full.seen(1, 2);
        BENCH.due("of two: both gaps, parted by neither", full.ask(2), 0);
        BENCH.due("all three", full.gone(3, 0), 7);
        BENCH.due("all three", full.gone(3, NONE), 1);
    }

    private static void games() {
        DrownedNames x = Bench.ministry("wd20;wd20;nf2;nf3;n;ns3");
        x.dip(3, 0);
        x.dip(2, 0);
        BENCH.due("his, one's own depth", x.game(0, 1, 0, 2, 0, 0), 3);
        BENCH.due("not the other's", x.game(0, 1, 0, 2, 0, 1), 0);
        BENCH.due("as deep as the deeper", x.game(0, 1, 0, 2, 5, 0), -2);
        BENCH.due("the other's", x.game(0, 1, 0, 2, 5, 1), 0);
        BENCH.due("by the other's pen", x.game(0, 1, 0, 1, 4, 0), 4);
        BENCH.due("nobody comes up", x.game(0, 1, 0, 0, 0, 0), 0);
        BENCH.due("too shallow", x.game(0, 1, 0, 1, 1, 1), -1);
        BENCH.due("nobody in it", x.game(0, 1, 1, 9, 0, 0), -9);
        BENCH.due("drowned ones play, too", x.game(2, 3, 0, 9, 9, 0), -9);
        BENCH.due("turned round", x.game(1, 0, 0, 0, 2, 1), 3);
        BENCH.due("alike", x.game(0, 0, 0, 0, 0, 0), Bench.HIDDEN);
        BENCH.due("no such one", x.game(4, 0, 0, 0, 0, 0), Bench.HIDDEN);
        BENCH.due("no such one", x.game(-1, 0, 0, 0, 0, 0), Bench.HIDDEN);
        BENCH.due("no such other", x.game(0, 4, 0, 0, 0, 0), Bench.HIDDEN);
        BENCH.due("no such other", x.game(0, -1, 0, 0, 0, 0), Bench.HIDDEN);
        BENCH.due("no such well", x.game(0, 1, 2, 0, 0, 0), Bench.HIDDEN);
        BENCH.due("no such well", x.game(0, 1, -1, 0, 0, 0), Bench.HIDDEN);
        BENCH.due("x 10", x.game(0, 1, 0, 10, 0, 0), Bench.HIDDEN);
        BENCH.due("x -1", x.game(0, 1, 0, -1, 0, 0), Bench.HIDDEN);
        BENCH.due("y 10", x.game(0, 1, 0, 0, 10, 0), Bench.HIDDEN);
        BENCH.due("y -1", x.game(0, 1, 0, 0, -1, 0), Bench.HIDDEN);
        BENCH.due("no such what", x.game(0, 1, 0, 0, 0, 2), Bench.HIDDEN);
        BENCH.due("no such what", x.game(0, 1, 0, 0, 0, -1), Bench.HIDDEN);
        BENCH.due("x and y 9", x.game(0, 1, 0, 9, 9, 1), -4);
        BENCH.due("no act, no status", x.count(12) + x.status(0) + x.status(1), 2);
    }

    private static void rests() {
        DrownedNames x = Bench.ministry("wd20;wd20;ns2f2;ns2f2;ns3f0;ns5f0");
        BENCH.due("nobody in it: neither scratches", x.rests(0, 1, 0, NONE), 1);
        BENCH.due("00", x.rests(0, 1, 0, 0), 0);
        x.dip(2, 0);
        BENCH.due("both know him: either scratches", x.rests(0, 1, 0, NONE), 2);
        BENCH.due("03", x.rests(0, 1, 0, 0), 3);
        BENCH.due("30", x.rests(0, 1, 0, 1), 30);
        BENCH.due("no such one", x.rests(0, 1, 0, 2), NONE);
        BENCH.due("no such one", x.rests(0, 1, 0, -2), NONE);
        x.dip(3, 1);
        x.dip(0, 1);
        BENCH.due("one alone knows him", x.rests(2, 1, 1, NONE), 1);
        BENCH.due("20", x.rests(2, 1, 1, 0), 20);
        BENCH.due("02", x.rests(1, 2, 1, 0), 2);
        BENCH.due("alike", x.rests(0, 0, 0, NONE), NONE);
        BENCH.due("no such name", x.rests(4, 0, 0, NONE), NONE);
        BENCH.due("no such name", x.rests(-1, 0, 0, NONE), NONE);
        BENCH.due("no such name", x.rests(0, 4, 0, NONE), NONE);
        BENCH.due("no such name", x.rests(0, -1, 0, NONE), NONE);
        BENCH.due("no such well", x.rests(0, 1, 2, NONE), NONE);
        BENCH.due("no such well", x.rests(0, 1, -1, NONE), NONE);
        // By five drops he has as much as by none, so both are rests.
        DrownedNames five = Bench.ministry("wd20;ns1f2;ns1f3;ns5f0;ns1f0");
        five.dip(2, 0);
        BENCH.due("two rests", five.rests(0, 1, 0, NONE), 2);
        BENCH.due("00", five.rests(0, 1, 0, 0), 0);
        BENCH.due("50", five.rests(0, 1, 0, 1), 50);
    }

    private static void odds() {
        DrownedNames x = Bench.ministry("wd30;wd30;ns3f1;ns2f0;ns2f0;ns3f0;ns5f0");
        x.dip(0, 0);
        x.dip(1, 0);
        x.dip(2, 0);
        x.dip(4, 1);
        BENCH.due("no scratch", x.odds(0, 0), 0);
        BENCH.due("seven: the third third", x.odds(0, 1), 333333334);
        BENCH.due("five", x.odds(1, 1), 333333333);
        BENCH.due("three", x.odds(2, 1), 333333333);
        // 7 at once; 3 or 5, then 5 or 7 beneath the two drops that are left.
        BENCH.due("two for the lowest", x.odds(0, 2), 333333334 + 2 * (111111111 + 111111111));
        // 5 at once; 3, then 3 alone of a well with 3 and 2; 7, then 5 or 7 beneath two.
        BENCH.due("two for the middle", x.odds(1, 2), 333333333 + 111111111 + 111111111 + 111111112);
        BENCH.due("alone: five or seven", x.odds(4, 1), 666666667);
        BENCH.due("alone, two", x.odds(4, 2), 666666667 + 111111111 + 111111111);
        BENCH.due("alone, four", x.odds(4, 4), 666666667 + 222222222 + 74074074 + 24691358);
        BENCH.due("free", x.odds(3, 1), NONE);
        BENCH.due("no such name", x.odds(5, 1), NONE);
        BENCH.due("no such name", x.odds(-1, 1), NONE);
        BENCH.due("five scratches", x.odds(0, 5), NONE);
        BENCH.due("-1", x.odds(0, -1), NONE);
        DrownedNames deep = Bench.ministry("sd2;wd30;ns4f1;ns1f0");
        deep.dip(0, 0);
        BENCH.due("eight drops: never", deep.odds(0, 4), 0);
        DrownedNames three = Bench.ministry("wd30;ns3f1;ns5f0;ns1f0");
        three.dip(0, 0);
        BENCH.due("three drops: by all", three.odds(0, 1), 1000000000);
        three.dip(2, 0);
        BENCH.due("four drops: by five and seven", three.odds(0, 1), 666666667);
    }

    private static void shares() {
        DrownedNames x = Bench.ministry("wd20;wd20;wd20;ns3f1;ns2;ns2");
        BENCH.due("nobody anywhere", x.shares(0, 999), 0);
        x.dip(0, 0);
        x.dip(1, 1);
        x.dip(2, 1);
        BENCH.due("3 of 7", x.shares(0, 100), 42);
        BENCH.due("4 of 7", x.shares(1, 100), 57);
        BENCH.due("nobody in it", x.shares(2, 100), 0);
        BENCH.due("all", x.shares(1, 999), 570);
        BENCH.due("0", x.shares(0, 0), 0);
        BENCH.due("1000", x.shares(0, 1000), NONE);
        BENCH.due("-1", x.shares(0, -1), NONE);
        DrownedNames drop = Bench.ministry("w;w;ns1f1;n");
        drop.dip(0, 1);
        BENCH.due("a drop in all", drop.shares(1, 7), 7);
        BENCH.due("no such well", x.shares(3, 1), NONE);
        BENCH.due("no such well", x.shares(-1, 1), NONE);
    }

    private static void best() {
        DrownedNames none = new DrownedNames();
        for (int what = 0; what < 8; what++) {
            BENCH.due("no ministry: most(" + what + ")", none.most(what), NONE);
        }
        DrownedNames x = Bench.ministry("wd4;wd1r1;ns5f1;ns1f2;ns3f1;ns1f1o1;ns1f0");
        BENCH.due("0 does not fit, 1 is known by three", x.most(0), 3);
        BENCH.due("dip(3, 1)", x.dip(3, 1), 0);
        BENCH.due("known by nobody", x.most(0), 4);
        x.dip(4, 0);
        BENCH.due("1 and 2 alike, the lowest", x.most(0), 1);
        x.dip(2, 0);
        BENCH.due("nobody fits", x.most(0), NONE);
        BENCH.due("most(8)", x.most(8), NONE);
        BENCH.due("most(-1)", x.most(-1), NONE);
    }

    private static void bestByLaw() {
        DrownedNames x = Bench.ministry("wd1;wd9;wd9;ns1f1;ns2;ns2");
        Bench.hold(x, "y:w=0?5;y:w=1?s;y:0");
        BENCH.due("into the lowest well: 5 by 2", x.most(0), 1);
        Bench.hold(x, "y:w=0?1;y:w=1?s;y:0");
        BENCH.due("into the lowest well: 1 by 2", x.most(0), 0);
        x.dip(2, 1);
        Bench.hold(x, "y:a+w");
        BENCH.due("nothing above him then", x.most(0), 0);
        Bench.hold(x, "y:k*9+a*[s+5]");
        BENCH.due("each is known by the other free one: the lowest", x.most(0), 0);
        x.dip(0, 0);
        BENCH.due("the only one", x.most(0), 1);
    }

    private static void nets() {
        DrownedNames x = Bench.ministry("wd20;nf1;nf2;nf1;nf1;nf0");
        BENCH.due("nobody drowned", x.most(1), 0);
        x.dip(1, 0);
        BENCH.due("three know him", x.most(1), 3);
        x.dip(0, 0);
        BENCH.due("two know 1, one knows 0", x.most(1), 3);
        x.dip(2, 0);
        BENCH.due("two", x.most(1), 2);
    }

    private static void amnesties() {
        DrownedNames x = Bench.ministry("wd20;wd20;wd20;ns3f1;ns4f0;ns2f1;ns1f2");
        BENCH.due("nobody drowned: the lowest", x.most(2), 0);
        x.dip(0, 2);
        x.dip(1, 1);
        // Missed: 0 3; 1 4 and twice 1 (by 2). Freeing 1: 0 is known by 1: 5. Freeing 0: 1 by 0 and 2: 8.
        BENCH.due("the one who is missed less then stays", x.most(2), 1);
        x.undo();
        BENCH.due("the only one with any", x.most(2), 2);
        DrownedNames y = Bench.ministry("wd20;wd20;ns2f2;ns5f2;ns1f0");
        Bench.hold(y, "y:a");
        y.dip(1, 0);
        y.dip(0, 0);
        y.dip(2, 1);
        BENCH.due("the one with drops above", y.most(2), 0);
        Bench.hold(y, "y:w+1");
        BENCH.due("alike: the lowest", y.most(2), 0);
        Bench.hold(y, "y:w=0?9;y:1");
        BENCH.due("by the well", y.most(2), 0);
        Bench.hold(y, "y:w=0?0;y:1");
        BENCH.due("by the well", y.most(2), 1);
        y.back();
        BENCH.due("nobody came up", y.count(8), 7);
    }

    private static void mosts() {
        DrownedNames x = Bench.ministry("wd7;wd9;wd9;wd8;ns4f1;ns4f0;ns1f1;ns2f1;ns4f3");
        BENCH.due("the deepest", x.most(3), 1);
        BENCH.due("the fullest of empty ones", x.most(4), 0);
        BENCH.due("the longest", x.most(5), 0);
        BENCH.due("the dearest", x.most(6), 1);
        BENCH.due("hats", x.most(7), 0);
        x.fill(2);
        BENCH.due("the deepest then", x.most(3), 2);
        x.dip(0, 3);
        x.dip(1, 1);
        BENCH.due("the fullest of two alike", x.most(4), 1);
        x.dip(2, 3);
        BENCH.due("the fullest", x.most(4), 3);
        BENCH.due("drowned ones are as long", x.most(5), 0);
        BENCH.due("the dearest free one", x.most(6), 3);
        BENCH.due("hats", x.most(7), 3);
        x.dip(4, 2);
        BENCH.due("known by nobody who is free", x.most(6), 3);
        x.dip(3, 2);
        BENCH.due("nobody is free", x.most(6), NONE);
        BENCH.due("hats", x.most(7), 5);
    }

    private static void mostOfAll() {
        DrownedNames x = Bench.ministry("wd9;wd30;wd2;wd8;ns1f1;ns3f2;ns2f1;ns5f4;ns1f3;ns5f4;ns1f4");
        BENCH.due("longest", x.most(5), 3);
        BENCH.due("deepest", x.most(3), 1);
        BENCH.due("dearest", x.most(6), 4);
        x.dip(4, 1);
        BENCH.due("dearest of those left", x.most(6), 1);
        DrownedNames last = Bench.ministry("wd1;wd2;wd3;ns1f1;ns2f0;ns3f0");
        BENCH.due("longest", last.most(5), 2);
        BENCH.due("deepest", last.most(3), 2);
        BENCH.due("dearest", last.most(6), 0);
        DrownedNames alike = Bench.ministry("w;nf1;n");
        BENCH.due("longest of two alike", alike.most(5), 0);
        BENCH.due("dearest of two alike", alike.most(6), 0);
        DrownedNames second = Bench.ministry("w;ns1f1;ns2");
        BENCH.due("the second is the longest", second.most(5), 1);
    }

    private static void known() {
        DrownedNames none = new DrownedNames();
        BENCH.due("no ministry", none.known(0), NONE);
        DrownedNames x = Bench.ministry("wd20;nf1;n;nf1;nf1");
        BENCH.due("known(0)", x.known(0), 2);
        BENCH.due("known(1)", x.known(1), 13);
        BENCH.due("known(2)", x.known(2), 0);
        BENCH.due("known(4)", x.known(4), NONE);
        BENCH.due("known(-1)", x.known(-1), NONE);
        x.dip(0, 0);
        BENCH.due("drowned ones know, too", x.known(1), 13);
    }

    private static void quiet() {
        DrownedNames none = new DrownedNames();
        BENCH.due("no ministry", none.quiet(1), NONE);
        DrownedNames x = Bench.ministry("wd20;ns5f1;ns1");
        BENCH.due("nobody is missed", x.quiet(1), NONE);
        DrownedNames little = Bench.ministry("w;ns1f1;nf2;nf1");
        little.dip(0, 0);
        BENCH.due("one a year", little.quiet(1), 1);
        BENCH.due("one a year", little.quiet(999), 999);
        BENCH.due("one a year", little.quiet(1000), NONE);
        x.dip(0, 0);
        BENCH.due("one year", x.quiet(7), 1);
        BENCH.due("two years", x.quiet(8), 2);
        x.years(2);
        BENCH.due("so already", x.quiet(14), 0);
        BENCH.due("one more", x.quiet(15), 1);
        BENCH.due("999 years", x.quiet(14 + 999 * 7), 999);
        BENCH.due("not within 999", x.quiet(14 + 999 * 7 + 1), NONE);
        BENCH.due("0", x.quiet(0), NONE);
        BENCH.due("-1", x.quiet(-1), NONE);
        BENCH.due("10000", x.quiet(10000), NONE);
        x.blot(0);
        BENCH.due("so already, nobody drowned", x.quiet(14), 0);
        BENCH.due("never", x.quiet(15), NONE);
        Bench.hold(x, "y:30");
        x.dip(0, 0);
        x.dip(1, 0);
        BENCH.due("9999", x.quiet(9999), 167);
    }

    /** Questions change nothing. */
    private static void apart() {
        DrownedNames x = Bench.ministry("sc20;wd20;wd20;nf1;n;n;f");
        x.dip(0, 0);
        x.dip(1, 0);
        x.dip(2, 1);
        x.faction(1, 0);
        x.silence(7);
        x.game(0, 1, 0, 9, 9, 0);
        x.rests(0, 1, 0, NONE);
        x.odds(0, 4);
        x.quiet(500);
        for (int what = 0; what < 8; what++) {
            x.most(what);
        }
        BENCH.due("who", x.count(8), 7);
        BENCH.due("layer(0, 1)", x.layer(0, 1), 1);
        BENCH.due("coins", x.rule(1), 20);
        BENCH.due("year", x.count(6), 0);
        BENCH.due("acts", x.count(12), 3);
        for (int what = 0; what < 5; what++) {
            BENCH.due("status(" + what + ")", x.status(what), 0);
        }
    }
}
