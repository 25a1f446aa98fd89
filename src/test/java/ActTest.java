/** Promises 6 to 9, 11 to 22, 38 to 40: what stands, ACTS, STATUS, the LOG, what is UNDONE, IMAGES. */
public final class ActTest {
    private static final Bench BENCH = new Bench("ActTest");
    private static final int NONE = Bench.NONE;
    // Drops: 2, 3, 2, 4; the third is foreign; 0 and 2 know 1, 1 and 3 know 2.
    private static final String OFFICE = "sc6;wd8;wd5r1;wd30;ns2f1;ns3f2;ns2f1o1;ns4f2;f;fa2b3;fa3b0";

    public static void main(String[] args) {
        told();
        usual();
        dips();
        scratches();
        blots();
        waters();
        fills();
        gifts();
        years();
        longYears();
        unrestBounds();
        flies();
        decades();
        decadesByHand();
        statusFirst();
        undone();
        undoneLog();
        images();
        imageLog();
        counts();
        BENCH.finish();
    }

    private static void status(DrownedNames x, int s0, int s1, int s2, int s3, int s4) {
        int[] due = {s0, s1, s2, s3, s4};
        for (int what = 0; what < due.length; what++) {
            BENCH.due("status(" + what + ")", x.status(what), due[what]);
        }
        BENCH.due("status(5)", x.status(5), NONE);
        BENCH.due("status(-1)", x.status(-1), NONE);
    }

    private static void told() {
        DrownedNames x = Bench.ministry("sd3c77;wd0;wd30r1;ns5f1o1;ns1f0;fa1b0");
        BENCH.due("rule(0)", x.rule(0), 3);
        BENCH.due("rule(1)", x.rule(1), 77);
        BENCH.due("rule(2)", x.rule(2), NONE);
        BENCH.due("rule(-1)", x.rule(-1), NONE);
        int[][] names = {{5, 1, 1, -1, 0, 7}, {1, 0, 0, -1, 0, 3}};
        int[][] wells = {{0, 0, 0, 0}, {30, 1, 30, 0}};
        for (int i = 0; i < 2; i++) {
            for (int what = 0; what < 6; what++) {
                BENCH.due("name(" + i + ", " + what + ")", x.name(i, what), names[i][what]);
            }
            for (int what = 0; what < 4; what++) {
                BENCH.due("well(" + i + ", " + what + ")", x.well(i, what), wells[i][what]);
            }
        }
        BENCH.dueNoSuchName(x, 2, 0);
        BENCH.dueNoSuchName(x, -1, 0);
        BENCH.dueNoSuchName(x, 0, 6);
        BENCH.dueNoSuchName(x, 0, -1);
        BENCH.due("well(2, 0)", x.well(2, 0), NONE);
        BENCH.due("well(-1, 0)", x.well(-1, 0), NONE);
        BENCH.due("well(0, 4)", x.well(0, 4), NONE);
        BENCH.due("well(0, -1)", x.well(0, -1), NONE);
        BENCH.due("file(0, 0)", x.file(0, 0), 1);
        BENCH.due("file(0, 1)", x.file(0, 1), 0);
        BENCH.due("file(0, 2)", x.file(0, 2), 0);
        x.dip(0, 1);
        BENCH.due("file(0, 2) then", x.file(0, 2), 1);
        BENCH.due("room by drops of syllables", x.well(1, 2), 15);
        BENCH.due("file(0, 3)", x.file(0, 3), NONE);
        BENCH.due("file(0, -1)", x.file(0, -1), NONE);
        BENCH.due("file(1, 0)", x.file(1, 0), NONE);
        BENCH.due("file(-1, 0)", x.file(-1, 0), NONE);
    }

    private static void usual() {
        DrownedNames x = Bench.ministry("w;nf1;n;f");
        BENCH.due("drops without s", x.rule(0), 1);
        BENCH.due("coins without s", x.rule(1), 20);
        BENCH.due("depth", x.well(0, 0), 8);
        BENCH.due("red", x.well(0, 1), 0);
        BENCH.due("syllables", x.name(1, 0), 2);
        BENCH.due("knows", x.name(1, 1), 0);
        BENCH.due("foreign", x.name(1, 2), 0);
        BENCH.due("a", x.file(0, 0), 0);
        BENCH.due("b", x.file(0, 1), 1);
    }

    private static void dips() {
        DrownedNames x = Bench.ministry(OFFICE);
        BENCH.due("dip(3, 0)", x.dip(3, 0), 4);
        BENCH.due("not free", x.dip(3, 2), NONE);
        BENCH.due("not free, not his colour", x.dip(3, 1), NONE);
        BENCH.due("foreign into black", x.dip(2, 0), NONE);
        BENCH.due("into red", x.dip(1, 1), NONE);
        BENCH.due("dip(1, 0)", x.dip(1, 0), 1);
        BENCH.due("no room", x.dip(0, 0), NONE);
        BENCH.due("foreign into red", x.dip(2, 1), 3);
        BENCH.due("no such name", x.dip(4, 0), NONE);
        BENCH.due("no such name", x.dip(-1, 0), NONE);
        BENCH.due("no such well", x.dip(0, 3), NONE);
        BENCH.due("no such well", x.dip(0, -1), NONE);
        status(x, 4, 0, 2, 3, 0);
        BENCH.due("three acts", x.count(12), 3);
        BENCH.due("who", x.count(8), 14);
        BENCH.due("the well", x.name(3, 3), 0);
        BENCH.due("above the lower", x.name(3, 4), 3);
        BENCH.due("above the upper", x.name(1, 4), 0);
        DrownedNames exact = Bench.ministry("wd2;nf1;n");
        BENCH.due("room to the drop", exact.dip(0, 0), 0);
    }

    private static void scratches() {
        DrownedNames x = Bench.ministry(OFFICE);
        x.dip(1, 2);
        x.dip(0, 2);
        x.dip(3, 2);
        BENCH.due("too shallow", x.scratch(2, 3), NONE);
        BENCH.due("an act all the same", x.count(12), 4);
        BENCH.due("the middle one", x.scratch(2, 8), 0);
        BENCH.due("those over him stay", x.layer(2, 1), 3);
        BENCH.due("beneath 4", x.name(1, 4), 4);
        BENCH.due("the lowest that fits", x.scratch(2, 7), 1);
        BENCH.due("the last", x.scratch(2, 4), 3);
        BENCH.due("nobody in it", x.scratch(2, 4), -2);
        BENCH.due("n 0", x.scratch(2, 0), -2);
        BENCH.due("n 10", x.scratch(2, 10), -2);
        BENCH.due("no such well", x.scratch(3, 4), -2);
        BENCH.due("no such well", x.scratch(-1, 4), -2);
        status(x, 2, 2, 1, 0, 0);
        BENCH.due("acts", x.count(12), 7);
        BENCH.due("all free", x.count(8), 0);
        DrownedNames deep = Bench.ministry("wd30;ns5f1;ns4f0");
        deep.dip(0, 0);
        deep.dip(1, 0);
        BENCH.due("nine", deep.scratch(0, 9), 0);
        BENCH.due("one, too shallow", deep.scratch(0, 1), NONE);
    }

    private static void blots() {
        DrownedNames x = Bench.ministry("sc5;w;w;nf1;n;n");
        x.dip(1, 0);
        x.dip(0, 0);
        x.dip(2, 0);
        BENCH.due("the uppermost", x.blot(0), 2);
        BENCH.due("coins", x.rule(1), 3);
        BENCH.due("the next", x.blot(0), 0);
        BENCH.due("coins", x.rule(1), 1);
        BENCH.due("too few coins", x.blot(0), -2);
        BENCH.due("nobody in it, too few coins", x.blot(1), -2);
        BENCH.due("no such well", x.blot(2), -2);
        BENCH.due("no such well", x.blot(-1), -2);
        status(x, 2, 0, 1, 0, 1);
        BENCH.due("acts", x.count(12), 5);
        x.give(1);
        BENCH.due("two coins are enough", x.blot(0), 1);
        BENCH.due("coins", x.rule(1), 0);
    }

    private static void waters() {
        DrownedNames x = Bench.ministry("sc9;w;w;nf1;n;n");
        x.dip(2, 1);
        x.dip(0, 1);
        x.dip(1, 0);
        BENCH.due("all come up", x.water(1), 2);
        BENCH.due("coins", x.rule(1), 4);
        BENCH.due("the other stays", x.count(8), 2);
        BENCH.due("nobody in it, too few coins", x.water(1), NONE);
        BENCH.due("too few coins", x.water(0), NONE);
        BENCH.due("no such well", x.water(2), NONE);
        BENCH.due("no such well", x.water(-1), NONE);
        status(x, 2, 0, 1, 0, 1);
        x.give(1);
        BENCH.due("five coins are enough", x.water(0), 1);
        BENCH.due("coins", x.rule(1), 0);
    }

    private static void fills() {
        DrownedNames x = Bench.ministry("sc3;wd28;w;nf1;n");
        BENCH.due("29", x.fill(0), 29);
        BENCH.due("30", x.fill(0), 30);
        BENCH.due("thirty", x.fill(0), NONE);
        BENCH.due("coins", x.rule(1), 1);
        BENCH.due("the other", x.fill(1), 9);
        BENCH.due("room", x.well(1, 2), 9);
        BENCH.due("thirty, too few coins", x.fill(0), NONE);
        BENCH.due("too few coins", x.fill(1), NONE);
        BENCH.due("no such well", x.fill(2), NONE);
        BENCH.due("no such well", x.fill(-1), NONE);
        status(x, 2, 0, 2, 0, 1);
        BENCH.due("acts", x.count(12), 3);
    }

    private static void gifts() {
        DrownedNames x = Bench.ministry("sc0;w;nf1;n");
        BENCH.due("0", x.give(0), NONE);
        BENCH.due("-1", x.give(-1), NONE);
        BENCH.due("51", x.give(51), NONE);
        BENCH.due("very many", x.give(Integer.MAX_VALUE), NONE);
        for (int i = 1; i <= 19; i++) {
            BENCH.due("50", x.give(50), 50 * i);
        }
        BENCH.due("above 999", x.give(50), NONE);
        BENCH.due("999", x.give(49), 999);
        BENCH.due("1000", x.give(1), NONE);
        status(x, 0, 6, 0, 0, 0);
        BENCH.due("acts", x.count(12), 20);
        x.years(1);
        BENCH.due("a year gives none above 999", x.rule(1), 999);
    }

    private static void years() {
        DrownedNames x = Bench.ministry(OFFICE);
        x.dip(3, 0);
        BENCH.due("years(2)", x.years(2), 2);
        BENCH.due("unrest: four syllables, nobody knows him", x.count(7), 8);
        BENCH.due("coins: three free ones", x.rule(1), 12);
        x.dip(1, 0);
        BENCH.due("years(1)", x.years(1), 3);
        BENCH.due("unrest: 4, and 3 and twice 2", x.count(7), 19);
        BENCH.due("coins: two free ones", x.rule(1), 14);
        int[][] log = {{10, 11}, {8, 4}, {8, 4}};
        for (int i = 0; i < log.length; i++) {
            BENCH.due("log(" + i + ", 0)", x.log(i, 0), log[i][0]);
            BENCH.due("log(" + i + ", 1)", x.log(i, 1), log[i][1]);
        }
        BENCH.due("log(3, 0)", x.log(3, 0), NONE);
        BENCH.due("log(-1, 0)", x.log(-1, 0), NONE);
        BENCH.due("log(0, 2)", x.log(0, 2), NONE);
        BENCH.due("log(0, -1)", x.log(0, -1), NONE);
        BENCH.due("each year an act", x.count(12), 5);
        BENCH.due("0", x.years(0), NONE);
        BENCH.due("61", x.years(61), NONE);
        BENCH.due("-1", x.years(-1), NONE);
        status(x, 0, 3, 0, 0, 0);
        DrownedNames none = new DrownedNames();
        BENCH.due("no ministry", none.years(0), NONE);
        BENCH.due("no ministry", none.give(0), NONE);
        status(none, 2, 0, 0, 0, 0);
    }

    private static void longYears() {
        DrownedNames x = Bench.ministry("w;nf1;n");
        for (int i = 1; i <= 16; i++) {
            BENCH.due("years(60)", x.years(60), 60 * i);
        }
        BENCH.due("beyond 999", x.years(40), NONE);
        BENCH.due("decades beyond 999", x.decades(40, 1), NONE);
        BENCH.due("out of bounds first", x.years(61), NONE);
        BENCH.due("998", x.years(38), 998);
        BENCH.due("beyond 999", x.years(2), NONE);
        BENCH.due("decades beyond 999", x.decades(2, 1), NONE);
        BENCH.due("999", x.years(1), 999);
        BENCH.due("none goes by then", x.years(1), NONE);
        BENCH.due("none goes by then", x.decades(1, 1), NONE);
        status(x, 0, 1, 0, 0, 3);
        BENCH.due("the log", x.count(11), 60);
        BENCH.due("coins", x.rule(1), 999);
        BENCH.due("acts", x.count(12), 40);
    }

    private static void unrestBounds() {
        DrownedNames x = Bench.ministry("wd30;w;w;w;nf1;n;n;n;n;n;n");
        Bench.hold(x, "y:99");
        for (int name = 0; name < 7; name++) {
            x.dip(name, 0);
        }
        BENCH.due("held at 30", x.name(6, 5), 30);
        x.years(47);
        BENCH.due("47 times 210", x.count(7), 9870);
        x.years(1);
        BENCH.due("9999 at most", x.count(7), 9999);
        BENCH.due("the log has all of it", x.log(0, 1), 210);
        BENCH.due("no coin", x.rule(1), 20);
        x.undo();
        BENCH.due("undone", x.count(7), 9870);
    }

    private static void flies() {
        DrownedNames x = new DrownedNames();
        BENCH.due("it is so", x.flies(3), false);
        BENCH.due("0", x.flies(0), true);
        BENCH.due("0 again", x.flies(0), false);
        BENCH.due("9", x.flies(9), true);
        BENCH.due("10", x.flies(10), false);
        BENCH.due("-1", x.flies(-1), false);
        BENCH.due("count(9)", x.count(9), 9);
    }

    private static void decades() {
        DrownedNames x = new DrownedNames();
        BENCH.due("no ministry", x.decades(1, 1), NONE);
        Bench.found(x, OFFICE);
        BENCH.due("0", x.decades(0, 1), NONE);
        BENCH.due("61", x.decades(61, 1), NONE);
        BENCH.due("-1", x.decades(-1, 1), NONE);
        BENCH.due("60", x.decades(60, -5), 60);
        BENCH.due("60", x.decades(60, Long.MIN_VALUE), 120);
        BENCH.due("no status", x.status(0) + x.status(1) + x.status(2) + x.status(3) + x.status(4), 0);
        BENCH.due("1", x.decades(1, 0), 121);
        BENCH.due("a year is one act", x.count(12), 40);
        BENCH.due("undo", x.undo(), 39);
        BENCH.due("a year less", x.count(6), 120);
        for (int i = 0; i < 14; i++) {
            x.years(60);
        }
        BENCH.due("960", x.count(6), 960);
        BENCH.due("1000", x.decades(40, 1), NONE);
        BENCH.due("999", x.decades(39, 1), 999);
    }

    /** The draws of seed 7, worked out apart from the class. */
    private static void decadesByHand() {
        DrownedNames x = Bench.ministry("wd4;wd30;ns4f1;ns3f0;ns2f0");
        DrownedNames twin = Bench.ministry("wd4;wd30;ns4f1;ns3f0;ns2f0");
        x.flies(8);
        long seed = 7;
        x.decades(30, seed);
        for (int year = 0; year < 30; year++) {
            seed = seed * 6364136223846793005L + 1442695040888963407L;
            int name = (int) ((seed >>> 33) % 3);
            seed = seed * 6364136223846793005L + 1442695040888963407L;
            int well = (int) ((seed >>> 33) % 2);
            twin.dip(name, well);
            seed = seed * 6364136223846793005L + 1442695040888963407L;
            if ((seed >>> 33) % 10 < 8) {
                seed = seed * 6364136223846793005L + 1442695040888963407L;
                well = (int) ((seed >>> 33) % 2);
                seed = seed * 6364136223846793005L + 1442695040888963407L;
                twin.scratch(well, (int) ((seed >>> 33) % 9) + 1);
            }
            twin.years(1);
        }
        for (int i = 0; i < 30; i++) {
            BENCH.due("log(" + i + ", 0)", x.log(i, 0), twin.log(i, 0));
            BENCH.due("log(" + i + ", 1)", x.log(i, 1), twin.log(i, 1));
        }
        BENCH.due("who is drowned", x.count(8), twin.count(8));
        BENCH.due("coins", x.rule(1), twin.rule(1));
        BENCH.due("unrest", x.count(7), twin.count(7));
        BENCH.due("not all years alike", x.count(7) > 30, true);
        DrownedNames shorter = Bench.ministry("wd4;wd30;ns4f1;ns3f0;ns2f0");
        shorter.flies(8);
        for (int years = 29; years >= 20; years--) {
            shorter.image();
            shorter.decades(years, 7);
            x.undo();
            BENCH.due("undone with its draws: who", x.count(8), shorter.count(8));
            BENCH.due("undone with its draws: coins", x.rule(1), shorter.rule(1));
            BENCH.due("undone with its draws: the lowest", x.layer(1, 0), shorter.layer(1, 0));
            shorter.back();
        }
    }

    private static void statusFirst() {
        DrownedNames x = new DrownedNames();
        x.scratch(0, 0);
        x.dip(0, 0);
        status(x, 2, 0, 0, 0, 0);
        Bench.found(x, "sc0;w;nf1;n");
        x.scratch(0, 0);
        x.blot(0);
        x.water(0);
        status(x, 2, 1, 2, 0, 0);
        BENCH.due("nothing was an act", x.count(12), 0);
        x.give(1);
        x.dip(0, 0);
        x.dip(0, 0);
        x.undo();
        x.undo();
        status(x, 2, 1, 3, 0, 0);
    }

    private static void undone() {
        DrownedNames x = Bench.ministry("sc20;wd9;wd9;nf1;n;n");
        BENCH.due("none", x.undo(), NONE);
        x.dip(0, 0);
        x.dip(1, 0);
        x.dip(2, 0);
        x.scratch(0, 4);
        x.blot(0);
        x.water(0);
        x.fill(1);
        x.give(9);
        x.years(2);
        BENCH.due("acts", x.count(12), 10);
        BENCH.due("undo", x.undo(), 9);
        BENCH.due("year", x.count(6), 1);
        BENCH.due("log", x.count(11), 1);
        BENCH.due("coins", x.rule(1), 24);
        BENCH.due("undo", x.undo(), 8);
        BENCH.due("log(0, 0)", x.log(0, 0), NONE);
        BENCH.due("undo of the gift", x.undo(), 7);
        BENCH.due("coins", x.rule(1), 12);
        BENCH.due("undo of the filling", x.undo(), 6);
        BENCH.due("depth", x.well(1, 0), 9);
        BENCH.due("coins", x.rule(1), 13);
        BENCH.due("undo of the water", x.undo(), 5);
        BENCH.due("layer(0, 0)", x.layer(0, 0), 0);
        BENCH.due("coins", x.rule(1), 18);
        BENCH.due("undo of the blotting", x.undo(), 4);
        BENCH.due("layer(0, 1)", x.layer(0, 1), 2);
        BENCH.due("coins", x.rule(1), 20);
        BENCH.due("undo of the scratch", x.undo(), 3);
        for (int i = 0; i < 3; i++) {
            BENCH.due("layer(0, " + i + ")", x.layer(0, i), i);
        }
        BENCH.due("undo", x.undo(), 2);
        BENCH.due("undo", x.undo(), 1);
        BENCH.due("undo", x.undo(), 0);
        BENCH.due("none", x.undo(), NONE);
        BENCH.due("all free", x.count(8), 0);
        BENCH.due("room", x.well(0, 2), 9);
    }

    /** A YEAR that is UNDONE brings back what it had pushed out of the LOG. */
    private static void undoneLog() {
        DrownedNames x = Bench.ministry("sc99;wd9;wd9;nf1;n;n");
        x.dip(2, 0);
        x.years(1);
        x.blot(0);
        x.years(59);
        BENCH.due("the first still there", x.log(59, 0), 4);
        x.years(39);
        BENCH.due("pushed out", x.log(59, 0), 0);
        x.dip(0, 0);
        for (int i = 39; i >= 0; i--) {
            BENCH.due("undo", x.undo(), i);
        }
        BENCH.due("none", x.undo(), NONE);
        BENCH.due("year", x.count(6), 60);
        BENCH.due("log", x.count(11), 60);
        BENCH.due("there again", x.log(59, 0), 4);
        BENCH.due("there again", x.log(59, 1), 2);
        BENCH.due("nobody in the next", x.log(58, 0), 0);
    }

    private static void images() {
        DrownedNames x = new DrownedNames();
        BENCH.due("no ministry", x.image(), NONE);
        Bench.found(x, "sc20;wd9;wd9;nf1;n;n;f");
        BENCH.due("no image", x.back(), NONE);
        x.dip(2, 1);
        x.dip(0, 1);
        x.fill(1);
        x.years(2);
        BENCH.due("image()", x.image(), 2);
        BENCH.due("acts stay", x.count(12), 5);
        x.undo();
        x.undo();
        x.scratch(1, 4);
        x.fill(0);
        x.years(5);
        x.seen(0, 1);
        x.flies(7);
        BENCH.due("back()", x.back(), 2);
        int[] counts = {3, 2, 1, 0, 0, -1, 2, 12, 5, 7, 1, 2, 0};
        for (int what = 0; what < counts.length; what++) {
            BENCH.due("back: count(" + what + ")", x.count(what), counts[what]);
        }
        BENCH.due("layer(1, 0)", x.layer(1, 0), 2);
        BENCH.due("layer(1, 1)", x.layer(1, 1), 0);
        BENCH.due("depth", x.well(1, 0), 10);
        BENCH.due("depth", x.well(0, 0), 9);
        BENCH.due("coins", x.rule(1), 21);
        BENCH.due("log(0, 0)", x.log(0, 0), 5);
        BENCH.due("log(1, 1)", x.log(1, 1), 6);
        BENCH.due("no act can be undone", x.undo(), NONE);
        x.years(3);
        BENCH.due("back again", x.back(), 2);
        x.water(1);
        BENCH.due("another image", x.image(), 2);
        x.dip(1, 1);
        x.back();
        BENCH.due("the later one", x.count(8), 0);
        Bench.found(x, "w;nf1;n");
        BENCH.due("no image of this ministry", x.back(), NONE);
    }

    private static void imageLog() {
        DrownedNames x = Bench.ministry("sc20;wd9;nf1;n");
        x.dip(0, 0);
        x.years(30);
        x.image();
        for (int i = 0; i < 10; i++) {
            x.undo();
        }
        x.blot(0);
        x.years(60);
        x.years(60);
        BENCH.due("year", x.back(), 30);
        BENCH.due("log", x.count(11), 30);
        for (int i = 0; i < 30; i++) {
            BENCH.due("log(" + i + ", 0)", x.log(i, 0), 1);
            BENCH.due("log(" + i + ", 1)", x.log(i, 1), 4);
        }
        BENCH.due("log(30, 0)", x.log(30, 0), NONE);
        x.years(10);
        BENCH.due("log", x.count(11), 40);
    }

    private static void counts() {
        DrownedNames x = Bench.ministry(OFFICE);
        Bench.hold(x, "y:1");
        Bench.tell(x, "abc");
        x.dip(0, 0);
        x.dip(3, 2);
        x.years(1);
        x.seen(0, 1);
        int[] counts = {4, 3, 3, 1, 3, 0, 1, 2, 9, 3, 1, 1, 3};
        for (int what = 0; what < counts.length; what++) {
            BENCH.due("count(" + what + ")", x.count(what), counts[what]);
        }
        BENCH.due("count(13)", x.count(13), Bench.HIDDEN);
        BENCH.due("count(-1)", x.count(-1), Bench.HIDDEN);
    }
}
