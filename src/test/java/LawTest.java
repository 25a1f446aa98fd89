/** Promise 10 and the WORTH by LAWS: letters, signs, bounds, CONDITIONS, CLAUSES. */
public final class LawTest {
    private static final Bench BENCH = new Bench("LawTest");
    private static final String OFFICE = "wd20;wd20r1;wd20;ns3f1;ns1f0;ns5f1o1;ns2f1";

    public static void main(String[] args) {
        holding();
        letters();
        signs();
        bounds();
        conditions();
        clauses();
        yearByYear();
        BENCH.finish();
    }

    private static void holding() {
        DrownedNames x = new DrownedNames();
        BENCH.due("none holds", x.law(Bench.NONE), true);
        BENCH.due("no law yet", x.law(0), false);
        Bench.tell(x, "y:1");
        x.text(1);
        BENCH.due("none holds by itself", x.count(5), Bench.NONE);
        Bench.tell(x, "y:2");
        x.text(1);
        Bench.found(x, "w;ns5f1;n");
        BENCH.due("without a law", x.name(0, 5), 7);
        BENCH.due("law(1)", x.law(1), true);
        BENCH.due("count(5)", x.count(5), 1);
        BENCH.due("by law 1", x.name(0, 5), 2);
        BENCH.due("law(0)", x.law(0), true);
        BENCH.due("by law 0", x.name(0, 5), 1);
        BENCH.due("law(0) again", x.law(0), true);
        BENCH.due("law(2)", x.law(2), false);
        BENCH.due("law(-2)", x.law(-2), false);
        BENCH.due("still", x.count(5), 0);
        BENCH.due("law(NONE)", x.law(Bench.NONE), true);
        BENCH.due("without a law", x.name(0, 5), 7);
    }

    /** How much a NAME is MISSED by a LAW in a new office. */
    private static void missed(String law, int name, int due) {
        DrownedNames x = Bench.ministry(OFFICE);
        Bench.hold(x, law);
        BENCH.due(law + " of " + name, x.name(name, 5), due);
    }

    private static void worth(String sum, int due) {
        missed("y:" + sum, 0, due);
    }

    private static void letters() {
        missed("y:s", 2, 5);
        missed("y:k", 1, 3);
        missed("y:k", 0, 1);
        missed("y:k", 3, 0);
        missed("y:a", 0, 0);
        missed("y:o", 2, 1);
        missed("y:o", 0, 0);
        missed("y:w", 0, 3);
        missed("y:y", 0, 0);
        DrownedNames x = Bench.ministry(OFFICE);
        x.dip(1, 2);
        x.dip(0, 2);
        x.dip(3, 2);
        x.years(4);
        String[] laws = {"y:a", "y:w", "y:y", "y:k"};
        int[][] due = {{2, 5, 0, 0}, {2, 2, 3, 2}, {4, 4, 4, 4}, {0, 1, 0, 0}};
        for (int law = 0; law < laws.length; law++) {
            Bench.hold(x, laws[law]);
            for (int name = 0; name < 4; name++) {
                BENCH.due(laws[law] + " of " + name, x.name(name, 5), due[law][name]);
            }
        }
    }

    private static void signs() {
        worth("1+2*3", 7);
        worth("[1+2]*3", 9);
        worth("9-3-2", 4);
        worth("9-[3-2]", 8);
        worth("20/3", 6);
        worth("20/3*3", 18);
        worth("20*3/3", 20);
        worth("20/0", 0);
        worth("20/0+5", 5);
        worth("9+[0-7]/2", 6);
        worth("9+7/[0-2]", 6);
        worth("[0-7]/[0-2]", 3);
        worth("2+2/2", 3);
        worth("0007", 7);
        worth(" 1 + [ 2 ] * s ", 7);
    }

    private static void bounds() {
        worth("31", 30);
        worth("30", 30);
        worth("1-2", 0);
        worth("9999*9999/9999", 30);
        worth("9999*9999-[9999*99+9999]", 30);
        worth("9999*9999/[9999+1]/10", 10);
        worth("9999*9999*9999*9999/[9999+1]/10", 10);
        worth("20+[0-9999]*9999/[9999+1]/10", 10);
        worth("9999*9999+1-9999*9999", 0);
        worth("9999*9999+9999-9999*99-9999-90", 10);
        worth("9999*9999+9999-9999*99-9999-91+1", 10);
        worth("[0-9999*9999]-9999+9999*99+9999+100", 0);
        worth("[0-9999*9999]-9999+9999*99+9999+110", 10);
    }

    private static void conditions() {
        String[] held = {"s=3", "s<4", "s>2", "!s=4", "!!s=3", "(s=3)", "s=3&k=1", "s=4|k=1", "s=4&k=1|s=3",
            "s=3|s=4&k=5", "!s=4&k=1", "!(s=3&k=2)", "!(s=4|k=2)", "(s=4|s=3)&(k=1|k=2)", "s+1=2*2", "[s]>[k]",
            "!s=3|s=3", "s=3&!k=2", "s<4&s=3", "s=3&s>2", "s<4&s>2", "!(s<4&s=4)", "s>2&!s<3"};
        String[] not = {"s=4", "s<3", "s>3", "!s=3", "!!s=4", "(s=4)", "s=3&k=2", "s=4|k=2", "(s=3|s=4)&k=5",
            "!(s=3|s=4)", "!s=3&k=1", "!(s=3)", "s<k", "k>s"};
        for (String condition : held) {
            missed("y:" + condition + "?11;y:22", 0, 11);
        }
        for (String condition : not) {
            missed("y:" + condition + "?11;y:22", 0, 22);
        }
    }

    private static void clauses() {
        missed("y:s=1?1;y:s=3?3;y:s=3?4", 0, 3);
        missed("y:s=1?1;y:s=2?3", 0, 0);
        missed("y:5;y:6", 0, 5);
        missed("y:s=3?5;y:6", 0, 5);
        missed("y:s=4?5;y:6;y:7", 0, 6);
        missed("y:s=9?1;y:s=9?2;y:s=9?3;y:s=3?s*k+w", 0, 6);
    }

    /** The LAW is asked anew each YEAR, with the YEAR that goes by. */
    private static void yearByYear() {
        DrownedNames x = Bench.ministry(OFFICE);
        Bench.hold(x, "y:y>1?y*10;y:a+1");
        x.dip(0, 0);
        x.dip(3, 0);
        x.years(4);
        int[] due = {60, 40, 4, 4};
        for (int i = 0; i < due.length; i++) {
            BENCH.due("log(" + i + ", 1)", x.log(i, 1), due[i]);
        }
        BENCH.due("unrest", x.count(7), 108);
    }
}
