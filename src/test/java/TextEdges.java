/** Edges of TEXTS, sentence by sentence: the grammar of both sorts, FAULTS, promises 1 to 5. */
final class TextEdges {
    private static final int NONE = Bench.NONE;
    private static final int TERMS = Sentences.TERMS;
    private static final String SMALL = "w;nf1;n";
    private static final int[] NO_SORTS = {Integer.MIN_VALUE, -2, -1, 2, 3, Integer.MAX_VALUE};

    private final Sentences doc;

    TextEdges(Sentences doc) {
        this.doc = doc;
    }

    void go() {
        clauses();
        items();
        rulesAndWells();
        namesAndFiles();
        lawClauses();
        conditions();
        sums();
        bounds();
        blanks();
        tooEarly();
        notWhole();
        wrongNumbers();
        oneTooMany();
        newObject();
        feed();
        end();
        fault();
        textOfMinistry();
        textOfLaw();
    }

    private void right(String text) {
        doc.due("ministry '" + text + "'", Bench.faultOf(text, Bench.MINISTRY), NONE);
    }

    /** The FAULT is right behind the first piece. */
    private void wrong(String piece, String rest) {
        doc.due("ministry '" + piece + rest + "'", Bench.faultOf(piece + rest, Bench.MINISTRY), piece.length());
    }

    private void rightLaw(String text) {
        doc.due("law '" + text + "'", Bench.faultOf(text, Bench.LAW), NONE);
    }

    private void wrongLaw(String piece, String rest) {
        doc.due("law '" + piece + rest + "'", Bench.faultOf(piece + rest, Bench.LAW), piece.length());
    }

    /** How much NAME 0 (three SYLLABLES, free in the YEAR 0, KNOWN by one) is MISSED by a LAW. */
    private void missed(String law, int want) {
        DrownedNames x = Bench.ministry("w;ns3f1;n");
        Bench.hold(x, law);
        doc.due("missed by '" + law + "'", x.name(0, 5), want);
    }

    private void clauses() {
        doc.says(TERMS, "A MINISTRY is a TEXT: CLAUSES with ; between");
        right(SMALL);
        wrong("w;nf1;n;", "");
        wrong("", ";w;nf1;n");
        wrong("w;", ";nf1;n");
        wrong("w", "nf1;n");
        wrong("w ", "nf1;n");
        wrong("w", ",nf1;n");
        doc.says(TERMS, "s (its RULES; one at most)");
        right(SMALL);
        right("s;" + SMALL);
        wrong("s;w;nf1;n;", "s");
        doc.says(TERMS, "w (a WELL; 1 .. 4)");
        wrong("nf1;n", "");
        right("w;nf1;n");
        right("w;w;w;w;nf1;n");
        wrong("w;w;w;w;", "w;nf1;n");
        doc.due("wells", Bench.ministry("w;w;w;w;nf1;n").count(1), 4);
        doc.says(TERMS, "n (a NAME; 2 .. 7)");
        wrong("w;nf1", "");
        right("w;nf1;n");
        right("w;nf1;n;n;n;n;n;n");
        wrong("w;nf1;n;n;n;n;n;n;", "n");
        doc.due("names", Bench.ministry("w;nf1;n;n;n;n;n;n").count(0), 7);
        doc.says(TERMS, "f (a FILE; none to 6)");
        right(SMALL);
        right(SMALL + ";f;f;f;f;f;f");
        wrong(SMALL + ";f;f;f;f;f;f;", "f");
        doc.due("files", Bench.ministry(SMALL + ";f;f;f;f;f;f").count(2), 6);
        doc.due("no files", Bench.ministry(SMALL).count(2), 0);
        doc.says(TERMS, "in any order");
        right("f;nf1;s;n;w");
        right("nf1;f;w;n;s");
        right("nf1;n;w;f;w;f;n;s;w");
    }

    private void items() {
        doc.says(TERMS, "then ITEMS, none or more");
        right("s;w;nf1;n;f");
        right("sd1c1;wd1r0;ns1f1o0;ns1o1f0;fa0b1");
        right("sc1d1;wr0d1;no0f1s1;nf0;fb1a0");
        wrong("s", "1;w;nf1;n");
        wrong("s", "r1;w;nf1;n");
        wrong("w", "c1;nf1;n");
        wrong("n", "d1;w;n");
        wrong("f", "o1;w;nf1;n");
        doc.says(TERMS, "a letter, each once at most in a CLAUSE");
        right("wd1;wd1;ns1f1;ns1f0");
        wrong("sd1c1", "d1;w;nf1;n");
        wrong("sc1", "c1;w;nf1;n");
        wrong("wr0", "r0;nf1;n");
        wrong("wd1r1", "d1;nf1;n");
        wrong("ns1f1o0", "s1;n;w");
        wrong("nf1", "f1;n;w");
        wrong("no0", "o0;n;w");
        wrong("fa1", "a1;w;nf1;n");
        wrong("fb1a0", "b1;w;nf1;n");
        doc.says(TERMS, "and a number (one or two digits)");
        right("sc9;" + SMALL);
        right("sc09;" + SMALL);
        right("sc99;" + SMALL);
        wrong("sc", ";w;nf1;n");
        wrong("sc", "d1;w;nf1;n");
        wrong("sc", "");
        wrong("sc12", "3;w;nf1;n");
        doc.due("two digits, the first 0", Bench.ministry("sc09;" + SMALL).rule(1), 9);
    }

    private void rulesAndWells() {
        doc.says(TERMS, "of s: d how many DROPS a SYLLABLE takes (1 .. 3; 1 without)");
        wrong("sd", "0;w;nf1;n");
        doc.due("1", Bench.ministry("sd1;" + SMALL).rule(0), 1);
        doc.due("3", Bench.ministry("sd3;" + SMALL).rule(0), 3);
        wrong("sd", "4;w;nf1;n");
        doc.due("s without d", Bench.ministry("sc7;" + SMALL).rule(0), 1);
        doc.due("no s", Bench.ministry(SMALL).rule(0), 1);
        doc.says(TERMS, "c COINS (0 .. 99; 20)");
        doc.due("0", Bench.ministry("sc0;" + SMALL).rule(1), 0);
        doc.due("99", Bench.ministry("sc99;" + SMALL).rule(1), 99);
        wrong("sc10", "0;w;nf1;n");
        doc.due("s without c", Bench.ministry("sd2;" + SMALL).rule(1), 20);
        doc.due("no s", Bench.ministry(SMALL).rule(1), 20);
        doc.says(TERMS, "of w: d DEPTH in DROPS (0 .. 30; 8)");
        doc.due("0", Bench.ministry("wd0;nf1;n").well(0, 0), 0);
        doc.due("30", Bench.ministry("wd30;nf1;n").well(0, 0), 30);
        wrong("wd3", "1;nf1;n");
        doc.due("without", Bench.ministry("wr1;nf1;n").well(0, 0), 8);
        doc.says(TERMS, "r whether it is RED (0, 1; 0)");
        doc.due("0", Bench.ministry("wr0;nf1;n").well(0, 1), 0);
        doc.due("1", Bench.ministry("wr1;nf1;n").well(0, 1), 1);
        wrong("wr", "2;nf1;n");
        doc.due("without", Bench.ministry("wd1;nf1;n").well(0, 1), 0);
    }

    private void namesAndFiles() {
        String seven = "w;nf1;n;n;n;n;n;n";
        doc.says(TERMS, "of n: s SYLLABLES (1 .. 5; 2)");
        wrong("ns", "0;w;nf1;n");
        doc.due("1", Bench.ministry("w;ns1f1;n").name(0, 0), 1);
        doc.due("5", Bench.ministry("w;ns5f1;n").name(0, 0), 5);
        wrong("ns", "6;w;nf1;n");
        doc.due("without", Bench.ministry("w;nf1;n").name(0, 0), 2);
        doc.says(TERMS, "f whom he KNOWS (0 .. 6; 0)");
        doc.due("0", Bench.ministry("w;nf1;nf0").name(1, 1), 0);
        doc.due("6", Bench.ministry("w;nf6;n;n;n;n;n;n").name(0, 1), 6);
        wrong("w;nf", "7;n;n;n;n;n;n");
        doc.due("without", Bench.ministry(seven).name(6, 1), 0);
        doc.says(TERMS, "o whether he is FOREIGN (0, 1; 0)");
        doc.due("0", Bench.ministry("w;nf1o0;n").name(0, 2), 0);
        doc.due("1", Bench.ministry("w;nf1o1;n").name(0, 2), 1);
        wrong("w;nf1o", "2;n");
        doc.due("without", Bench.ministry("w;nf1;n").name(0, 2), 0);
        doc.says(TERMS, "of f: a, b the NAMES in it (0 .. 6 each; 0, 1)");
        doc.due("a 6", Bench.ministry(seven + ";fa6").file(0, 0), 6);
        doc.due("b 6", Bench.ministry(seven + ";fb6").file(0, 1), 6);
        doc.due("b 0", Bench.ministry(seven + ";fa6b0").file(0, 1), 0);
        wrong(seven + ";fa", "7");
        wrong(seven + ";fb", "7");
        doc.due("without a", Bench.ministry(seven + ";fb6").file(0, 0), 0);
        doc.due("without b", Bench.ministry(seven + ";fa6").file(0, 1), 1);
        doc.due("without both", Bench.ministry(seven + ";f").file(0, 1), 1);
    }

    private void lawClauses() {
        doc.says(TERMS, "LAWS (4 at most) are TEXTS");
        DrownedNames x = new DrownedNames();
        for (int law = 0; law < 4; law++) {
            Bench.tell(x, "y:1");
            doc.due("law " + law, x.text(1), law);
        }
        Bench.tell(x, "y:1");
        doc.due("a fifth", x.text(1), NONE);
        doc.due("laws", x.count(3), 4);
        doc.says(TERMS, "CLAUSES with ; between, one at least: y, : , perhaps CONDITION ?, then SUM.");
        wrongLaw("", "");
        rightLaw("y:1");
        rightLaw("y:1;y:2;y:3");
        wrongLaw("y:1;", "");
        wrongLaw("y:1;", ";y:2");
        wrongLaw("", ";y:2");
        wrongLaw("y:1", "y:2");
        wrongLaw("", "s:1");
        wrongLaw("y", "1");
        wrongLaw("y:", ";y:1");
        rightLaw("y:s=1?2");
        wrongLaw("y:s=1", ";y:2");
        wrongLaw("y:s=1?", ";y:2");
        wrongLaw("y:", "?2");
        wrongLaw("y:s", "?2");
        wrongLaw("y:s=1?2", "?3");
        wrongLaw("y:s=1?2", "=3");
        doc.says(TERMS, "WORTH: the SUM of the first CLAUSE whose CONDITION holds (or has none), 0 without.");
        missed("y:s=3?5;y:s=3?6", 5);
        missed("y:s=2?5;y:s=3?6;y:7", 6);
        missed("y:5;y:s=3?6", 5);
        missed("y:s=2?5;y:7;y:s=3?6", 7);
        missed("y:s=2?5;y:s=4?6", 0);
        missed("y:s=2?5", 0);
    }

    private void conditions() {
        doc.says(TERMS, "CONDITION: TRUTHS with | between");
        rightLaw("y:s=1|k=1|a=1?1");
        wrongLaw("y:s=1|", "?1");
        wrongLaw("y:s=1|", "|k=1?1");
        wrongLaw("y:", "|k=1?1");
        missed("y:s=1|s=3?5", 5);
        missed("y:s=3|s=1?5", 5);
        missed("y:s=1|s=2?5", 0);
        missed("y:s=3|s=3?5", 5);
        doc.says(TERMS, "TRUTH: UNITS with & between");
        rightLaw("y:s=1&k=1&a=1?1");
        wrongLaw("y:s=1&", "?1");
        wrongLaw("y:s=1&", "&k=1?1");
        wrongLaw("y:", "&k=1?1");
        missed("y:s=3&k=1?5", 5);
        missed("y:s=3&k=2?5", 0);
        missed("y:s=2&k=1?5", 0);
        missed("y:s=3|s=2&k=2?5", 5);
        missed("y:s=2&k=2|s=3?5", 5);
        doc.says(TERMS, "UNIT: ! UNIT, ( CONDITION ), or SUM, one of = < >, SUM.");
        rightLaw("y:!!(s=1|!k<2)&a>3?1");
        wrongLaw("y:!", "?1");
        wrongLaw("y:!s", "?1");
        wrongLaw("y:(", ")?1");
        wrongLaw("y:(s", ")?1");
        wrongLaw("y:(s=1", "?1");
        wrongLaw("y:(s=1)", ")?1");
        wrongLaw("y:s=", "?1");
        wrongLaw("y:s=", "=1?1");
        wrongLaw("y:s<", ">1?1");
        wrongLaw("y:s=1", "=1?1");
        wrongLaw("y:s=", "!k=1?1");
        missed("y:s<4?5", 5);
        missed("y:s<3?5", 0);
        missed("y:s>2?5", 5);
        missed("y:s>3?5", 0);
        missed("y:!s=3?5", 0);
        missed("y:!s=3|s=3?5", 5);
        missed("y:!(s=2|k=2)?5", 5);
        missed("y:!s=2&k=1?5", 5);
        missed("y:s=3&k<2&s>2?5", 5);
        missed("y:k<2&!s>3&s=3?5", 5);
        missed("y:s>2&!k>1&!k<1?5", 5);
        doc.says(TERMS, "(A CLAUSE that goes on with ! or ( behind its : has a CONDITION.)");
        wrongLaw("y:(s", ")*2");
        wrongLaw("y:(s+1", ")");
        wrongLaw("y:(s=1)", "");
        wrongLaw("y:(s=1)", "+1");
        wrongLaw("y:(s=1)", ";y:1");
        wrongLaw("y:!s=1", "");
        wrongLaw("y:!s=1", ";y:1");
        wrongLaw("y:!s+1", "");
        doc.says(TERMS, "At most six of ( [ ! within one another.");
        rightLaw("y:((((((s=1))))))?1");
        rightLaw("y:[[[[[[1]]]]]]");
        rightLaw("y:!!!!!!s=1?1");
        rightLaw("y:!(!([[s]]=1))?1");
        rightLaw("y:[1]+[1]+[1]+[1]+[1]+[1]+[1]+[1]");
        rightLaw("y:(s=1)&(s=1)&(s=1)&!s=1&!s=1&!s=1&[s]=[1]?[1]");
        rightLaw("y:((((((s=1))))))&!!!!!!s=1?[[[[[[1]]]]]]");
    }

    private void sums() {
        doc.says(TERMS, "SUM: TERMS with + or - between");
        rightLaw("y:1+2-3+4");
        wrongLaw("y:1+", "");
        wrongLaw("y:", "-1");
        wrongLaw("y:", "+1");
        wrongLaw("y:1-", "-1");
        missed("y:9-3-2", 4);
        missed("y:9-3+2", 8);
        missed("y:1+2*3-8/4", 5);
        doc.says(TERMS, "TERM: ATOMS with * or / between");
        rightLaw("y:1*2/3*4");
        wrongLaw("y:1*", "/2");
        wrongLaw("y:", "*2");
        wrongLaw("y:1/", "");
        missed("y:20/3*3", 18);
        missed("y:20*3/3", 20);
        missed("y:20/5/2", 2);
        doc.says(TERMS, "ATOM: a number (1 to 4 digits), a letter (s k a o w y), [ SUM ].");
        rightLaw("y:1");
        rightLaw("y:9999");
        rightLaw("y:0000");
        wrongLaw("y:9999", "9");
        wrongLaw("y:", "");
        for (String letter : "s k a o w y".split(" ")) {
            rightLaw("y:" + letter);
        }
        for (String letter : "d n f r c b S :".split(" ")) {
            wrongLaw("y:", letter);
        }
        wrongLaw("y:s", "k");
        wrongLaw("y:1", "s");
        rightLaw("y:[1]");
        wrongLaw("y:[", "]");
        wrongLaw("y:[1", "");
        wrongLaw("y:[1", ")");
        wrongLaw("y:[1", "=1]");
        wrongLaw("y:[", "(1)]");
        wrongLaw("y:1", "]");
    }

    private void bounds() {
        doc.says(TERMS, "Behind each sign numbers are within -1,000,000 .. 1,000,000");
        // 9999 times 99, and 9999, and 99 are 999,999.
        missed("y:[9999*99+9999+99+0]-[9999*99+9999+99-9]", 9);
        missed("y:[9999*99+9999+99+1]-[9999*99+9999+99-9]", 10);
        missed("y:[9999*99+9999+99+2]-[9999*99+9999+99-9]", 10);
        missed("y:[0-9999*99-9999-99-0]+9999*99+9999+99-9+20", 11);
        missed("y:[0-9999*99-9999-99-1]+9999*99+9999+99-9+20", 10);
        missed("y:[0-9999*99-9999-99-2]+9999*99+9999+99-9+20", 10);
        missed("y:9999*9999/1000/100", 10);
        missed("y:9999*9999*9999*9999/1000/100", 10);
        missed("y:[0-9999]*9999/1000/100+20", 10);
        missed("y:[0-9999]*[0-9999]/1000/100", 10);
        doc.says(TERMS, "/ cuts towards 0, by 0 gives 0.");
        missed("y:7/2", 3);
        missed("y:9+[0-7]/2", 6);
        missed("y:9+7/[0-2]", 6);
        missed("y:[0-7]/[0-2]", 3);
        missed("y:7/8", 0);
        missed("y:5+7/0", 5);
        missed("y:5+0/0", 5);
        missed("y:5+[0-7]/[3-s]", 5);
    }

    private void blanks() {
        doc.says(TERMS, "Blanks (32) may stand between all signs of both, not within numbers.");
        right("  s  d 1 c 20 ; w d 30 r 0 ; n s 1 f 1 o 0 ; n ; f a 0 b 1  ");
        rightLaw("  y : ! ( s = 1 & k < 2 | [ a + 1 ] * 2 > 3 ) ? 4 - 5 / 6 ; y  : 7  ");
        wrong("sc1 ", "2;w;nf1;n");
        wrongLaw("y:1 ", "2");
        wrong("w", "\t;nf1;n");
        wrong("w;nf1;n", "\n");
        wrongLaw("y:1", "\t");
        wrong("w", "\u00A0;nf1;n");
        DrownedNames x = Bench.ministry("s c 12 ; w ; n f 1 ; n");
        doc.due("the number between blanks", x.rule(1), 12);
        missed("y : 12 + 1", 13);
    }

    private void tooEarly() {
        doc.says(TERMS, "FAULT: the first byte at which no such TEXT can go on");
        wrong("", "x");
        wrong("", "W;nf1;n");
        wrong("w", "x;nf1;n");
        wrong("w;", "q;z");
        wrong("w;nf1;n", "\u00FF");
        wrongLaw("", "x");
        wrongLaw("y:1", "%;%");
        doc.says(TERMS, "(the length, if it ends too early");
        for (String text : "|   |w;|w; |wd|wd |w;nf1;n;|s|w;nf".split("\\|")) {
            wrong(text, "");
        }
        wrong(" ".repeat(240), "");
        wrongLaw(" ".repeat(240), "");
        wrong("w;nf1;" + " ".repeat(234), "");
        right("w;nf1;n" + " ".repeat(233));
        rightLaw(" ".repeat(237) + "y:1");
        for (String text : new String[] {"", "  ", "y", "y ", "y:", "y:1+", "y:1* ", "y:[1", "y:[[1]", "y:(s=1", "y:!s=1",
            "y:s=1", "y:s=", "y:s=1?", "y:s=1&", "y:s=1|", "y:1;", "y:1;y", "y:1; "}) {
            wrongLaw(text, "");
        }
    }

    private void notWhole() {
        doc.says(TERMS, "without a WELL");
        wrong("nf1;n", "");
        wrong("s;nf1;n;f  ", "");
        doc.says(TERMS, "with fewer than two NAMES");
        wrong("w", "");
        wrong("w;s", "");
        wrong("w;nf1", "");
        wrong("w;n", "");
        doc.says(TERMS, "with a NAME that is not told known or in a FILE");
        wrong("w;nf2;n", "");
        right("w;nf2;n;n");
        wrong("w;nf6;n;n;n;n;n", "");
        right("w;nf6;n;n;n;n;n;n");
        wrong("w;nf1;n;fb2", "");
        wrong("w;nf1;n;fa2", "");
        right("w;nf1;n;fb2;n");
        right("fa6b5;w;nf1;n;n;n;n;n;n");
        doc.says(TERMS, "with one who KNOWS himself");
        wrong("w;n;n", "");
        wrong("w;nf0;n", "");
        wrong("w;nf1;nf1", "");
        wrong("w;nf1;n;n;n;n;n;nf6", "");
        doc.says(TERMS, "a FILE of one twice)");
        wrong("w;nf1;n;fa1", "");
        wrong("w;nf1;n;fb0", "");
        wrong("w;nf1;n;fa0b0;f", "");
        right("w;nf1;n;fa1b0");
    }

    private void wrongNumbers() {
        doc.says(TERMS, "a number out of bounds is wrong at its last digit");
        wrong("sd", "0");
        wrong("sd0", "0;w;nf1;n");
        wrong("sd0", "4;w;nf1;n");
        wrong("sd", "9 ;w;nf1;n");
        wrong("wd3", "1;nf1;n");
        wrong("wd9", "9");
        wrong("wr1", "0;nf1;n");
        wrong("nf", "7;x");
        wrong("nf7", "1;x");
        wrong("w;nf1;n;fa1", "0");
        right("sd01;wd08;ns05f01o00;nf00");
        doc.says(TERMS, "a third digit (a fifth one in a LAW) itself, whatever stands ahead of it");
        wrong("sc10", "0;w;nf1;n");
        wrong("sc99", "9;w;nf1;n");
        wrong("sd99", "9;w;nf1;n");
        wrong("sd00", "1;w;nf1;n");
        wrong("wd31", "0;nf1;n");
        wrong("wr00", "0;nf1;n");
        wrong("sc00", "0000");
        wrongLaw("y:9999", "9");
        wrongLaw("y:0000", "0");
        wrongLaw("y:0001", "1=1?1");
        wrongLaw("y:s+1234", "56");
    }

    private void oneTooMany() {
        doc.says(TERMS, "a letter that was there");
        wrong("sd1", "d");
        wrong("wd1r1", "d31;nf1;n");
        wrong("ns1 f1 ", "s1;n;w");
        wrong("w;nf1;n;fa0b1", "a0");
        doc.says(TERMS, "a second s");
        wrong("s;", "s");
        wrong("s;w;nf1;n;", "sd9");
        doc.says(TERMS, "a fifth w");
        wrong("w;w;w;w;", "w");
        wrong("w;n;w;n;w;n;w;", "wd99");
        doc.says(TERMS, "an eighth n");
        wrong("n;n;n;n;n;n;n;", "n");
        wrong("n;n;n;w;n;n;n;n;", "ns9");
        doc.says(TERMS, "a seventh f");
        wrong("f;f;f;f;f;f;", "f");
        wrong("f;f;w;f;f;f;f;", "fa9");
        // No clause can follow the eighteenth, yet each kind is named as wrong at its letter, not at the ; ahead of it.
        String full = "s;w;w;w;w;nf1;n;n;n;n;n;n;f;f;f;f;f;f;";
        for (String kind : new String[] {"s", "w", "n", "f", ""}) {
            wrong(full, kind);
        }
        doc.says(TERMS, "a seventh of ( [ ! at it.");
        wrongLaw("y:((((((", "(s=1)))))))?1");
        wrongLaw("y:[[[[[[", "[1]]]]]]]");
        wrongLaw("y:!!!!!!", "!s=1?1");
        wrongLaw("y:!(!(!(", "!s=1)))?1");
        wrongLaw("y:!(!(!(", "[s]=1)))?1");
        wrongLaw("y:!(!(!(s=", "[1])))?1");
        wrongLaw("y:((((([", "[s]]=1)))))?1");
        wrongLaw("y:(((((!s=1&s=[", "[1]])))))?1");
        wrongLaw("y:s=1?[[[[[[", "[1]]]]]]]");
    }

    private void newObject() {
        doc.says(1, "No MINISTRY.");
        DrownedNames x = new DrownedNames();
        int[] counts = {0, 0, 0, 0, 0, NONE, 0, 0, 0, 3, 0, 0, 0};
        for (int what = 0; what < counts.length; what++) {
            doc.due("count(" + what + ")", x.count(what), counts[what]);
        }
        doc.due("rule(0)", x.rule(0), NONE);
        doc.due("rule(1)", x.rule(1), NONE);
        doc.dueNoSuchName(x, 0, 0);
        doc.due("well(0, 0)", x.well(0, 0), NONE);
        doc.due("file(0, 0)", x.file(0, 0), NONE);
        doc.due("image()", x.image(), NONE);
        doc.due("undo()", x.undo(), NONE);
        doc.dueStatus(x, 0, 0, 0, 0, 0);
    }

    private void feed() {
        doc.says(2, "Twenty bytes more come to the TAPE (of each number the highest first; bytes of 0 are left out): "
                + "how many it has.");
        DrownedNames x = new DrownedNames();
        doc.due("zeros", x.feed(0, 0, 0, 0, 0), 0);
        doc.due("a byte in each place", x.feed(0x77000000, 0x003B0000, 0x00006E00, 0x00000066, 0x00310000), 5);
        doc.due("the lowest bytes", x.feed(0x3B, 0, 0, 0, 0x6E), 7);
        doc.due("they are w;nf1;n", x.text(0), 2);
        doc.due("twenty", x.feed(-1, Integer.MIN_VALUE | 0x010101, 0x01010101, Integer.MAX_VALUE, 0x41424344), 20);
        DrownedNames y = new DrownedNames();
        y.feed(0x6E66313B, 0x6E3B7700, 0, 0, 0);
        doc.due("nf1;n;w", y.fault(0), NONE);
        doc.says(2, "NONE: more than 240.");
        DrownedNames full = new DrownedNames();
        for (int i = 1; i < 12; i++) {
            doc.due("feed " + i, full.feed(-1, -1, -1, -1, -1), 20 * i);
        }
        doc.due("nineteen", full.feed(-1, -1, 0x00FFFFFF, -1, -1), 239);
        doc.due("two more are too many", full.feed(0, 1, 0, 0x100, 0), NONE);
        doc.due("as it was", full.count(4), 239);
        doc.due("the 240th", full.feed(0, 0, 0, 0, 0x10000), 240);
        for (int place = 0; place < 20; place++) {
            int[] words = new int[5];
            words[place / 4] = 1 << 8 * (place % 4);
            doc.due("the 241st, in place " + place, full.feed(words[0], words[1], words[2], words[3], words[4]), NONE);
        }
        doc.due("twenty more", full.feed(-1, -1, -1, -1, -1), NONE);
        doc.due("none more", full.feed(0, 0, 0, 0, 0), 240);
        doc.due("as it was", full.count(4), 240);
    }

    private void end() {
        doc.says(3, "The TAPE has its first n bytes alone.");
        DrownedNames x = new DrownedNames();
        doc.due("none of none", x.end(0), true);
        Bench.tell(x, SMALL + ";n");
        doc.due("all", x.end(9), true);
        doc.due("count(4)", x.count(4), 9);
        doc.due("seven", x.end(7), true);
        doc.due("count(4)", x.count(4), 7);
        doc.due("fault(0)", x.fault(0), NONE);
        doc.due("six", x.end(6), true);
        doc.due("fault(0)", x.fault(0), 6);
        doc.due("more behind them", Bench.tell(x, "n"), 7);
        doc.due("fault(0)", x.fault(0), NONE);
        doc.due("none", x.end(0), true);
        doc.due("count(4)", x.count(4), 0);
        doc.says(3, "False: n.");
        doc.due("beyond an empty one", x.end(1), false);
        Bench.tell(x, SMALL);
        for (int n : new int[] {Integer.MIN_VALUE, -1, 8, 240, 241, Integer.MAX_VALUE}) {
            doc.due("end(" + n + ")", x.end(n), false);
        }
        doc.due("as it was", x.count(4), 7);
        x.end(3);
        doc.due("what was cut is gone", x.end(4), false);
        x.end(0);
        Bench.tell(x, "w   ");
        x.end(1);
        doc.due("blanks that were cut count for nothing", x.fault(0), 1);
        Bench.tell(x, ";nf1;n");
        doc.due("nor do they stand between", x.text(0), 2);
    }

    private void fault() {
        doc.says(4, "The FAULT of the TAPE as a MINISTRY (0), a LAW (1).");
        DrownedNames x = new DrownedNames();
        Bench.tell(x, "y:1");
        doc.due("a law as a ministry", x.fault(0), 0);
        doc.due("a law as a law", x.fault(1), NONE);
        doc.due("the tape stays", x.count(4), 3);
        doc.says(4, "NONE: none.");
        x.end(0);
        Bench.tell(x, SMALL);
        doc.due("a ministry", x.fault(0), NONE);
        doc.due("as a law", x.fault(1), 0);
        doc.due("no ministry by that", x.count(0), 0);
        doc.says(4, "-2: no such sort.");
        for (int sort : NO_SORTS) {
            doc.due("fault(" + sort + ")", x.fault(sort), -2);
        }
        doc.due("of an empty tape", new DrownedNames().fault(2), -2);
    }

    private void textOfMinistry() {
        doc.says(5, "The TAPE (empty then) is the MINISTRY");
        DrownedNames x = new DrownedNames();
        Bench.tell(x, "sd2c9;wd9;wd9;nf1;nf0;n;f");
        doc.due("text(0)", x.text(0), 3);
        doc.due("the tape", x.count(4), 0);
        doc.due("wells", x.count(1), 2);
        doc.says(5, "(YEAR 0, all free");
        Bench.hold(x, "y:7");
        Bench.hold(x, "y:8");
        x.flies(5);
        x.dip(0, 0);
        x.dip(0, 0);
        x.fill(1);
        x.years(3);
        x.seen(0, 1);
        x.image();
        doc.due("a new one", Bench.found(x, "sc3;w;nf1;n"), 2);
        doc.due("year", x.count(6), 0);
        doc.due("who is drowned", x.count(8), 0);
        doc.due("name(0, 3)", x.name(0, 3), NONE);
        doc.says(5, "all that was of another one, SEEN, too, is gone but LAWS, which holds, FLIES, STATUS)");
        int[] counts = {2, 1, 0, 2, 0, 1, 0, 0, 0, 5, 0, 0, 0};
        for (int what = 0; what < counts.length; what++) {
            doc.due("count(" + what + ")", x.count(what), counts[what]);
        }
        doc.due("drops", x.rule(0), 1);
        doc.due("coins", x.rule(1), 3);
        doc.due("depth", x.well(0, 0), 8);
        doc.due("room", x.well(0, 2), 8);
        doc.due("by the law that holds", x.name(0, 5), 8);
        doc.due("the log", x.log(0, 0), NONE);
        doc.due("undo()", x.undo(), NONE);
        doc.due("back()", x.back(), NONE);
        doc.dueStatus(x, 0, 0, 1, 0, 0);
        doc.says(5, "how many NAMES");
        doc.due("two", Bench.found(x, SMALL), 2);
        doc.due("seven", Bench.found(x, "w;w;w;w;nf6;nf6;nf6;nf6;nf6;nf6;n;fa6b5"), 7);
        doc.due("a faction in two of four wells", x.faction(127, 0), 111);
        doc.due("two again", Bench.found(x, "wd2;nf1;n"), 2);
        doc.due("no room in a second well", x.faction(3, 0), NONE);
    }

    private void textOfLaw() {
        doc.says(5, "a LAW: its number.");
        DrownedNames x = Bench.ministry(SMALL);
        for (int law = 0; law < 4; law++) {
            Bench.tell(x, "y:" + law);
            doc.due("law " + law, x.text(1), law);
            doc.due("the tape is empty then", x.count(4), 0);
        }
        doc.due("none holds by that", x.count(5), NONE);
        doc.due("the ministry stays", x.count(0), 2);
        doc.says(5, "NONE: a FAULT");
        DrownedNames y = Bench.ministry(SMALL);
        doc.due("an empty tape", y.text(0), NONE);
        doc.due("an empty tape", y.text(1), NONE);
        Bench.tell(y, "y:1");
        doc.due("a law as a ministry", y.text(0), NONE);
        doc.due("the tape stays", y.count(4), 3);
        y.end(0);
        Bench.tell(y, "w;nf1;nf0");
        doc.due("a ministry as a law", y.text(1), NONE);
        doc.due("the tape stays", y.count(4), 9);
        doc.due("no law", y.count(3), 0);
        doc.due("the ministry of before", y.count(0), 2);
        doc.says(5, "no such sort");
        for (int sort : NO_SORTS) {
            doc.due("text(" + sort + ")", y.text(sort), NONE);
        }
        doc.due("the tape stays", y.count(4), 9);
        doc.says(5, "there are four LAWS.");
        Bench.tell(x, "y:5");
        doc.due("a fifth one", x.text(1), NONE);
        doc.due("the tape stays", x.count(4), 3);
        doc.due("it has no fault", x.fault(1), NONE);
        doc.due("four", x.count(3), 4);
        x.law(3);
        doc.due("the fourth as it was", x.name(0, 5), 3);
    }
}
