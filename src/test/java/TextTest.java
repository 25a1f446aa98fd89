/** Promises 1 to 5: a new object, the TAPE, FAULTS of both sorts, TEXTS taken. */
public final class TextTest {
    private static final Bench BENCH = new Bench("TextTest");
    private static final String SMALL = "w;nf1;n";

    public static void main(String[] args) {
        newObject();
        tape();
        ministryGrammar();
        ministryNumbers();
        ministryWhole();
        lawGrammar();
        lawNesting();
        texts();
        newMinistry();
        BENCH.finish();
    }

    private static void newObject() {
        DrownedNames x = new DrownedNames();
        int[] counts = {0, 0, 0, 0, 0, -1, 0, 0, 0, 3, 0, 0, 0};
        for (int what = 0; what < counts.length; what++) {
            BENCH.due("new: count(" + what + ")", x.count(what), counts[what]);
        }
        BENCH.due("new: rule(0)", x.rule(0), Bench.NONE);
        BENCH.due("new: rule(1)", x.rule(1), Bench.NONE);
        BENCH.dueNoSuchName(x, 0, 0);
        for (int what = 0; what < 5; what++) {
            BENCH.due("new: status(" + what + ")", x.status(what), 0);
        }
    }

    private static void tape() {
        DrownedNames x = new DrownedNames();
        BENCH.due("feed of zeros", x.feed(0, 0, 0, 0, 0), 0);
        BENCH.due("feed with gaps", x.feed(0x77003B00, 0x006E0066, 0x31, 0x3B000000, 0x00006E00), 7);
        BENCH.due("highest byte first", x.fault(0), Bench.NONE);
        BENCH.due("end(-1)", x.end(-1), false);
        BENCH.due("end beyond", x.end(8), false);
        BENCH.due("end at the length", x.end(7), true);
        BENCH.due("count(4)", x.count(4), 7);
        BENCH.due("end(3)", x.end(3), true);
        BENCH.due("end(4) then", x.end(4), false);
        BENCH.due("the first three alone", x.fault(0), 3);
        BENCH.due("end(0)", x.end(0), true);
        BENCH.due("end(0) again", x.end(0), true);
        for (int i = 1; i <= 12; i++) {
            BENCH.due("feed " + i, x.feed(-1, 0x20202020, 0x41414141, 0x80808080, 0x7F7F7F7F), 20 * i);
        }
        BENCH.due("a byte too much", x.feed(0, 0, 0, 0, 1), Bench.NONE);
        BENCH.due("a byte too much", x.feed(0, 0, 0, 1 << 8, 0), Bench.NONE);
        BENCH.due("a byte too much", x.feed(0, 0, 1 << 16, 0, 0), Bench.NONE);
        BENCH.due("a byte too much", x.feed(0, -1 << 24, 0, 0, 0), Bench.NONE);
        BENCH.due("a byte too much", x.feed(1, 0, 0, 0, 0), Bench.NONE);
        BENCH.due("nothing more", x.feed(0, 0, 0, 0, 0), 240);
        BENCH.due("bytes above 127 are wrong", x.fault(0), 0);
        x.end(239);
        BENCH.due("two too much", x.feed(1, 1, 0, 0, 0), Bench.NONE);
        BENCH.due("refused as a whole", x.count(4), 239);
        BENCH.due("one more fits", x.feed(0, 0, 1, 0, 0), 240);
    }

    private static void ministry(String text, int fault) {
        BENCH.due("ministry '" + text + "'", Bench.faultOf(text, Bench.MINISTRY), fault);
    }

    private static void ministryGrammar() {
        BENCH.due("no such sort", Bench.faultOf(SMALL, 2), -2);
        BENCH.due("no such sort", Bench.faultOf(SMALL, -1), -2);
        ministry("", 0);
        ministry("   ", 3);
        ministry(SMALL, -1);
        ministry("  w ; n f 1 ; n  ", -1);
        ministry("n;nf0;w;s", 9);
        ministry("nf1;s;f;nf0;w", -1);
        ministry("s d 3 c 99 ; w d 30 r 1 ; n s 5 f 6 o 1 ; n", 43);
        ministry("w;nf1;n;", 8);
        ministry("w;nf1;n; ", 9);
        ministry("w;;nf1;n", 2);
        ministry(";w;nf1;n", 0);
        ministry("w,nf1;n", 1);
        ministry("W;nf1;n", 0);
        ministry("w;nf1;nn", 7);
        ministry("w;nf1 n", 6);
        ministry("wf1", 1);
        ministry("nd1", 1);
        ministry("sr1", 1);
        ministry("fs1", 1);
        ministry("s;w;s", 4);
        ministry("w;w;w;w;w", 8);
        ministry("n;n;n;n;n;n;n;n", 14);
        ministry("f;f;f;f;f;f;f", 12);
        ministry("wd1r1d1", 5);
        ministry("ns1f1o1s1", 7);
        ministry("ns1 s1", 4);
        ministry("sc1d1c1", 5);
        ministry("fa1b0a1", 5);
        ministry("wd", 2);
        ministry("wd;", 2);
        ministry("wdd1", 2);
        ministry("w1", 1);
        ministry("w;nf1;n\t", 7);
    }

    private static void ministryNumbers() {
        ministry("sd0", 2);
        ministry("sd1;w;nf1;n", -1);
        ministry("sd3;w;nf1;n", -1);
        ministry("sd03;w;nf1;n", -1);
        ministry("sd4", 2);
        ministry("sd4;w;nf1;n", 2);
        ministry("sd10", 3);
        ministry("sd40", 3);
        ministry("sd00", 3);
        ministry("sd001", 4);
        ministry("sd999", 4);
        ministry("sd9999", 4);
        ministry("sd 9 9", 3);
        ministry("sd1 1", 4);
        ministry("sc0;w;nf1;n", -1);
        ministry("sc99;w;nf1;n", -1);
        ministry("sc100", 4);
        ministry("wd0;nf1;n", -1);
        ministry("wd30;nf1;n", -1);
        ministry("wd31", 3);
        ministry("wr2", 2);
        ministry("wr0;nf1o0;ns1", -1);
        ministry("nf0s1o0;nf1;w", 13);
        ministry("nf1;nf0;w;fa0b1;fa1b0", -1);
        ministry("wr1;nf1;n", -1);
        ministry("ns0", 2);
        ministry("ns6", 2);
        ministry("ns5f1;n;w", -1);
        ministry("nf7", 2);
        ministry("nf71", 3);
        ministry("no2", 2);
        ministry("fa7", 2);
        ministry("fb7", 2);
        ministry("fa6b5;w;nf1;n;n;n;n;n;n", -1);
    }

    private static void ministryWhole() {
        ministry("nf1;n", 5);
        ministry("nf1;n  ", 7);
        ministry("w", 1);
        ministry("w;nf1", 5);
        ministry("w;n;n", 5);
        ministry("w;nf1;nf1", 9);
        ministry("w;nf2;n", 7);
        ministry("w;nf2;n;n", -1);
        ministry("w;nf1;n;f", -1);
        ministry("w;nf1;n;fa1", 11);
        ministry("w;nf1;n;fa1b0", -1);
        ministry("w;nf1;n;fb2", 11);
        ministry("w;nf1;n;fa2", 11);
        ministry("w;nf1;n;fb0", 11);
        ministry("w;w;w;w;nf1;n;n;n;n;n;n;f;f;f;f;f;f;s", -1);
    }

    private static void law(String text, int fault) {
        BENCH.due("law '" + text + "'", Bench.faultOf(text, Bench.LAW), fault);
    }

    private static void lawGrammar() {
        law("", 0);
        law("  ", 2);
        law("y", 1);
        law("y:", 2);
        law("s:1", 0);
        law("y1", 1);
        law("y:1", -1);
        law(" y : 1 ", -1);
        law("y:s+k-a*o/w+y", -1);
        law("y:d", 2);
        law("y:-1", 2);
        law("y:1+", 4);
        law("y:1+*", 4);
        law("y:1 1", 4);
        law("y:9999", -1);
        law("y:0000", -1);
        law("y:12345", 6);
        law("y:123456", 6);
        law("y:s1", 3);
        law("y:1s", 3);
        law("y:1;", 4);
        law("y:1;;", 4);
        law("y:1;y:2", -1);
        law("y:1;s:2", 4);
        law("y:s=1?2", -1);
        law("y:s=1", 5);
        law("y:s=1;", 5);
        law("y:s=1?", 6);
        law("y:s=1?2;y:k<1?3;y:4", -1);
        law("y:s?2", 3);
        law("y:s&", 3);
        law("y:s)", 3);
        law("y:s]", 3);
        law("y:s=1=1?2", 5);
        law("y:s=<1", 4);
        law("y:s=1&k>2|a<3?2", -1);
        law("y:s=1&?2", 6);
        law("y:s=1|", 6);
        law("y:(s=1)?2", -1);
        law("y:(s)", 4);
        law("y:(s=1)", 7);
        law("y:(s=1)+1?2", 7);
        law("y:(s=1?2", 6);
        law("y:((s=1)&k=2)|o=1?2", -1);
        law("y:!s=1?2", -1);
        law("y:!!(s=1)?2", -1);
        law("y:!s?2", 4);
        law("y:s=1&!(k=1)?2", -1);
        law("y:s=!1", 4);
        law("y:s=(1)", 4);
        law("y:s=1?!k", 6);
        law("y:s=1?(k)", 6);
        law("y:s=1?2?3", 7);
        law("y:s=1?2=2", 7);
        law("y:[s+1]*2", -1);
        law("y:[s+1", 6);
        law("y:[s=1]", 4);
        law("y:[]", 3);
        law("y:[(s=1)]", 3);
        law("y:[s]s", 5);
        law("y:[s]<[k]?[a]", -1);
        law("y: ! ( s = 1 ) ? 2", -1);
    }

    private static void lawNesting() {
        law("y:[[[[[[1]]]]]]", -1);
        law("y:[[[[[[[1]]]]]]]", 8);
        law("y:[[[[[[1]]]]]]+[[[[[[1]]]]]]", -1);
        law("y:((((((s=1))))))?1", -1);
        law("y:(((((((s=1)))))))?1", 8);
        law("y:!!!!!!s=1?1", -1);
        law("y:!!!!!!!s=1?1", 8);
        law("y:!!!!!!s=1&!!!!!!s=1?1", -1);
        law("y:!(!([[s]]=1))?1", -1);
        law("y:!(!([[[s]]]=1))?1", 8);
        law("y:!(!(s=[[[s]]]))?1", 10);
        law("y:(((((!s=[1]))))&s=1)?1", 10);
        law("y:(((((!s=1&s=[1])))))?1", -1);
        law("y:(((((!s=1&s=[[1]])))))?1", 15);
        law("y:((((((s=1))))))?[[[[[[1]]]]]]", -1);
        law("y:((((((s=1))))))?[[[[[[[1]]]]]]]", 24);
    }

    private static void texts() {
        DrownedNames x = new DrownedNames();
        BENCH.due("text of nothing", x.text(0), Bench.NONE);
        Bench.tell(x, SMALL);
        BENCH.due("text(2)", x.text(2), Bench.NONE);
        BENCH.due("text(-1)", x.text(-1), Bench.NONE);
        BENCH.due("a ministry is no law", x.text(1), Bench.NONE);
        BENCH.due("the tape stays", x.count(4), 7);
        BENCH.due("text(0)", x.text(0), 2);
        BENCH.due("the tape is empty", x.count(4), 0);
        for (int law = 0; law < 4; law++) {
            Bench.tell(x, "y:" + law);
            BENCH.due("law " + law, x.text(1), law);
            BENCH.due("the tape is empty", x.count(4), 0);
            BENCH.due("count(3)", x.count(3), law + 1);
        }
        Bench.tell(x, "y:5");
        BENCH.due("a fifth law", x.text(1), Bench.NONE);
        BENCH.due("the tape stays", x.count(4), 3);
        BENCH.due("no fault though", x.fault(1), Bench.NONE);
        BENCH.due("none holds", x.count(5), Bench.NONE);
        BENCH.due("a law is no ministry", x.text(0), Bench.NONE);
        BENCH.due("the ministry stays", x.count(0), 2);
    }

    private static void newMinistry() {
        DrownedNames x = Bench.ministry("sd2c9;wd9;wd9;nf1;nf0;n;f");
        Bench.hold(x, "y:7");
        x.flies(5);
        x.dip(0, 0);
        x.dip(0, 0);
        x.fill(1);
        x.years(3);
        x.seen(0, 1);
        x.image();
        BENCH.due("a new ministry", Bench.found(x, "sc3;w;nf1;n"), 2);
        int[] counts = {2, 1, 0, 1, 0, 0, 0, 0, 0, 5, 0, 0, 0};
        for (int what = 0; what < counts.length; what++) {
            BENCH.due("of the new one: count(" + what + ")", x.count(what), counts[what]);
        }
        BENCH.due("rule(0)", x.rule(0), 1);
        BENCH.due("rule(1)", x.rule(1), 3);
        BENCH.due("well(0, 0)", x.well(0, 0), 8);
        BENCH.due("name(0, 3)", x.name(0, 3), Bench.NONE);
        BENCH.due("the law holds on", x.name(0, 5), 7);
        BENCH.due("status stays", x.status(2), 1);
        BENCH.due("log(0, 0)", x.log(0, 0), Bench.NONE);
        BENCH.due("undo()", x.undo(), Bench.NONE);
        BENCH.due("back()", x.back(), Bench.NONE);
    }
}
