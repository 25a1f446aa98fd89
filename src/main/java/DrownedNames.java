import java.util.NoSuchElementException;

/** An old ministry that drowns names in ink; ../shared/DOC.md says what each call promises. */
public final class DrownedNames {
    public static final int NONE = -1;
    public static final int HIDDEN = -1000000;

    // The answer of a refused pen or blotter, whose NONE already says that nobody came up.
    private static final int REFUSED = -2;

    private static final int MINISTRY = 0;
    private static final int LAW = 1;

    private static final int NO_SUCH = 0;
    private static final int OUT_OF_BOUNDS = 1;
    private static final int NOT_SO = 2;
    private static final int NOT_INTO = 3;
    private static final int TOO_FEW = 4;

    private static final int BLOT_PRICE = 2;
    private static final int WATER_PRICE = 5;
    private static final int FILL_PRICE = 1;
    private static final int GIFT_MOST = 50;
    private static final int YEARS_MOST = 60;
    private static final int FLIES_MOST = 9;
    private static final int SHARED_MOST = 999;

    private static final long DRAW_TIMES = 6364136223846793005L;
    private static final long DRAW_AND = 1442695040888963407L;

    private final Tape tape;
    private final Ministry ministry;
    private final MinistryReader ministryReader;
    private final LawReader lawReader;
    private final Ink ink;
    private final Ink kept;
    private final History history;
    private final Grief grief;
    private final Plots plots;
    private final Clues clues;
    private final Pens pens;
    private final int[] refusals;
    private int fliesBelow;
    private boolean hasImage;
    private long drawn;

    public DrownedNames() {
        tape = new Tape();
        ministry = new Ministry();
        ministryReader = new MinistryReader(tape);
        lawReader = new LawReader(tape);
        ink = new Ink(ministry);
        kept = new Ink(ministry);
        history = new History();
        grief = new Grief(ministry, ink);
        plots = new Plots(ministry, ink);
        clues = new Clues(ministry);
        pens = new Pens(ministry, ink);
        refusals = new int[TOO_FEW + 1];
        fliesBelow = 3;
    }

    public int feed(int a, int b, int c, int d, int e) {
        int more = Tape.bytesIn(a) + Tape.bytesIn(b) + Tape.bytesIn(c) + Tape.bytesIn(d) + Tape.bytesIn(e);
        if (tape.size() + more > Tape.MOST) {
            return NONE;
        }
        tape.append(a);
        tape.append(b);
        tape.append(c);
        tape.append(d);
        tape.append(e);
        return tape.size();
    }

    public boolean end(int n) {
        if (n < 0 || n > tape.size()) {
            return false;
        }
        tape.cut(n);
        return true;
    }

    public int fault(int sort) {
        switch (sort) {
            case MINISTRY:
                return ministryReader.read();
            case LAW:
                return lawReader.read();
            default:
                return REFUSED;
        }
    }

    public int text(int sort) {
        switch (sort) {
            case MINISTRY:
                return foundMinistry();
            case LAW:
                return passLaw();
            default:
                return NONE;
        }
    }

    private int foundMinistry() {
        if (ministryReader.read() != NONE) {
            return NONE;
        }
        ministry.copyFrom(ministryReader.draft());
        ink.start();
        history.forget();
        clues.forget();
        hasImage = false;
        tape.cut(0);
        return ministry.names();
    }

    private int passLaw() {
        if (grief.laws() >= Grief.LAWS_MOST || lawReader.read() != NONE) {
            return NONE;
        }
        tape.cut(0);
        return grief.pass(lawReader.draft());
    }

    public int rule(int what) {
        if (!ministry.stands()) {
            return NONE;
        }
        switch (what) {
            case 0:
                return ministry.dropsOfSyllable();
            case 1:
                return ink.coins();
            default:
                return NONE;
        }
    }

    public int name(int name, int what) throws NoSuchElementException {
        if (!ministry.hasName(name)) {
            throw new NoSuchElementException("no such name");
        }
        switch (what) {
            case 0:
                return ministry.syllables(name);
            case 1:
                return ministry.knows(name);
            case 2:
                return ministry.isForeign(name) ? 1 : 0;
            case 3:
                return ink.wellOf(name);
            case 4:
                return ink.above(name, ink.drowned());
            case 5:
                return grief.missed(name);
            default:
                throw new NoSuchElementException("no such what");
        }
    }

    public int well(int well, int what) {
        if (!ministry.hasWell(well)) {
            return NONE;
        }
        switch (what) {
            case 0:
                return ink.depth(well);
            case 1:
                return ministry.isRed(well) ? 1 : 0;
            case 2:
                return ink.room(well);
            case 3:
                return Integer.bitCount(ink.inside(well));
            default:
                return NONE;
        }
    }

    public int file(int file, int what) {
        if (!ministry.hasFile(file)) {
            return NONE;
        }
        switch (what) {
            case 0:
            case 1:
                return ministry.inFile(file, what);
            case 2:
                return ministry.gaps(file, ink.drowned());
            default:
                return NONE;
        }
    }

    public boolean law(int law) {
        return grief.hold(law);
    }

    public int dip(int name, int well) {
        if (!ministry.hasName(name) || !ministry.hasWell(well)) {
            return refuse(NO_SUCH, NONE);
        }
        if (!ink.isFree(name)) {
            return refuse(NOT_SO, NONE);
        }
        if (!ink.takes(well, name)) {
            return refuse(NOT_INTO, NONE);
        }
        history.keep(ink);
        ink.drown(name, well);
        return ink.room(well);
    }

    public int scratch(int well, int n) {
        if (!ministry.hasWell(well)) {
            return refuse(NO_SUCH, REFUSED);
        }
        if (n < 1 || n > Pens.DEEPEST) {
            return refuse(OUT_OF_BOUNDS, REFUSED);
        }
        if (ink.inside(well) == 0) {
            return refuse(NOT_SO, REFUSED);
        }
        history.keep(ink);
        return ink.scratchUp(well, n);
    }

    public int blot(int well) {
        if (!ministry.hasWell(well)) {
            return refuse(NO_SUCH, REFUSED);
        }
        if (ink.inside(well) == 0) {
            return refuse(NOT_SO, REFUSED);
        }
        if (ink.coins() < BLOT_PRICE) {
            return refuse(TOO_FEW, REFUSED);
        }
        history.keep(ink);
        ink.pay(BLOT_PRICE);
        return ink.liftUppermost(well);
    }

    public int water(int well) {
        if (!ministry.hasWell(well)) {
            return refuse(NO_SUCH, NONE);
        }
        if (ink.inside(well) == 0) {
            return refuse(NOT_SO, NONE);
        }
        if (ink.coins() < WATER_PRICE) {
            return refuse(TOO_FEW, NONE);
        }
        history.keep(ink);
        ink.pay(WATER_PRICE);
        return ink.liftAll(well);
    }

    public int fill(int well) {
        if (!ministry.hasWell(well)) {
            return refuse(NO_SUCH, NONE);
        }
        if (ink.depth(well) >= Ink.DEPTH_MOST) {
            return refuse(NOT_SO, NONE);
        }
        if (ink.coins() < FILL_PRICE) {
            return refuse(TOO_FEW, NONE);
        }
        history.keep(ink);
        ink.pay(FILL_PRICE);
        ink.deepen(well);
        return ink.depth(well);
    }

    public int give(int n) {
        if (!ministry.stands()) {
            return refuse(NO_SUCH, NONE);
        }
        if (n < 1 || n > GIFT_MOST || ink.coins() + n > Ink.COINS_MOST) {
            return refuse(OUT_OF_BOUNDS, NONE);
        }
        history.keep(ink);
        ink.earn(n);
        return ink.coins();
    }

    public int years(int n) {
        if (!ministry.stands()) {
            return refuse(NO_SUCH, NONE);
        }
        if (n < 1 || n > YEARS_MOST) {
            return refuse(OUT_OF_BOUNDS, NONE);
        }
        if (ink.year() + n > Ink.YEAR_MOST) {
            return refuse(TOO_FEW, NONE);
        }
        for (int i = 0; i < n; i++) {
            history.keep(ink);
            ink.passYear(grief.ofDrowned());
        }
        return ink.year();
    }

    public boolean flies(int v) {
        if (v < 0 || v > FLIES_MOST || v == fliesBelow) {
            return false;
        }
        fliesBelow = v;
        return true;
    }

    public int decades(int n, long seed) {
        if (!ministry.stands() || n < 1 || n > YEARS_MOST || ink.year() + n > Ink.YEAR_MOST) {
            return NONE;
        }
        drawn = seed;
        for (int i = 0; i < n; i++) {
            history.keep(ink);
            dipByDraws();
            scratchByDraws();
            ink.passYear(grief.ofDrowned());
        }
        return ink.year();
    }

    private void dipByDraws() {
        int name = draw(ministry.names());
        int well = draw(ministry.wells());
        if (ink.isFree(name) && ink.takes(well, name)) {
            ink.drown(name, well);
        }
    }

    private void scratchByDraws() {
        if (draw(FLIES_MOST + 1) < fliesBelow) {
            int well = draw(ministry.wells());
            int deep = draw(Pens.DEEPEST) + 1;
            ink.scratchUp(well, deep);
        }
    }

    private int draw(int j) {
        drawn = drawn * DRAW_TIMES + DRAW_AND;
        return j > 0 ? (int) ((drawn >>> 33) % j) : 0;
    }

    public int status(int what) {
        return what < 0 || what >= refusals.length ? NONE : refusals[what];
    }

    private int refuse(int sort, int answer) {
        if (sort >= 0 && sort < refusals.length) {
            refusals[sort]++;
        }
        return answer;
    }

    public int undo() {
        return history.takeBack(ink) ? history.acts() : NONE;
    }

    public int log(int i, int what) {
        if (i < 0 || i >= ink.logged()) {
            return NONE;
        }
        switch (what) {
            case 0:
                return ink.loggedWho(i);
            case 1:
                return ink.loggedMissed(i);
            default:
                return NONE;
        }
    }

    public int layer(int well, int i) {
        return ministry.hasWell(well) ? ink.lyingAt(well, i) : NONE;
    }

    public int reach(int name) {
        return ministry.hasName(name) ? pens.fewestDrops(name) : NONE;
    }

    public int faction(int set, int what) {
        if (set <= 0 || set > ministry.all() || (set & ink.drowned()) != 0 || !plots.place(set)) {
            return NONE;
        }
        switch (what) {
            case 0:
                return plots.row();
            case 1:
                return plots.fewest();
            default:
                return NONE;
        }
    }

    public int silence(int set) {
        if (!ministry.stands() || set < 0 || set > ministry.all()) {
            return NONE;
        }
        return plots.silenced(set | ink.drowned());
    }

    public int seen(int file, int g) {
        return clues.note(file, g);
    }

    public int gone(int k, int i) {
        if (!clues.canAsk(k)) {
            return NONE;
        }
        return i == NONE ? clues.sets(k) : clues.setAt(k, i);
    }

    public int sure(int k) {
        return clues.canAsk(k) ? clues.inAll(k) : NONE;
    }

    public int ask(int k) {
        return clues.canAsk(k) && clues.sets(k) > 0 ? clues.bestFile(k) : NONE;
    }

    public int game(int one, int other, int well, int x, int y, int what) {
        if (!canPlay(one, other, well) || x < 0 || x > Pens.DEEPEST || y < 0 || y > Pens.DEEPEST) {
            return HIDDEN;
        }
        pens.setUp(well);
        switch (what) {
            case 0:
                return pens.gain(one, x, y);
            case 1:
                return pens.gain(other, y, x);
            default:
                return HIDDEN;
        }
    }

    public int rests(int one, int other, int well, int i) {
        if (!canPlay(one, other, well)) {
            return NONE;
        }
        pens.setUp(well);
        return i == NONE ? pens.restCount(one, other) : pens.restAt(one, other, i);
    }

    private boolean canPlay(int one, int other, int well) {
        return ministry.hasName(one) && ministry.hasName(other) && one != other && ministry.hasWell(well);
    }

    public int odds(int name, int k) {
        if (!ministry.hasName(name) || ink.isFree(name) || k < 0 || k > Pens.SCRATCHES_MOST) {
            return NONE;
        }
        return pens.partsUp(name, k, ink.drowned(), Pens.PARTS);
    }

    public int shares(int well, int c) {
        if (!ministry.hasWell(well) || c < 0 || c > SHARED_MOST) {
            return NONE;
        }
        int all = ministry.dropsOf(ink.drowned());
        return all > 0 ? c * ministry.dropsOf(ink.inside(well)) / all : 0;
    }

    public int most(int what) {
        if (!ministry.stands()) {
            return NONE;
        }
        switch (what) {
            case 0:
                return grief.leastMissed();
            case 1:
                return grief.net();
            case 2:
                return grief.amnesty();
            case 3:
                return ink.deepest();
            case 4:
                return ink.fullest();
            case 5:
                return ministry.longest();
            case 6:
                return grief.dearest();
            case 7:
                return Integer.bitCount(ink.drowned());
            default:
                return NONE;
        }
    }

    public int known(int name) {
        return ministry.hasName(name) ? ministry.knownBy(name) : NONE;
    }

    public int quiet(int n) {
        if (!ministry.stands() || n < 1 || n > Ink.UNREST_MOST) {
            return NONE;
        }
        return grief.yearsUntil(n);
    }

    public int image() {
        if (!ministry.stands()) {
            return NONE;
        }
        kept.copyFrom(ink);
        hasImage = true;
        return ink.year();
    }

    public int back() {
        if (!hasImage) {
            return NONE;
        }
        ink.copyFrom(kept);
        history.forget();
        return ink.year();
    }

    public int count(int what) {
        switch (what) {
            case 0:
                return ministry.names();
            case 1:
                return ministry.wells();
            case 2:
                return ministry.files();
            case 3:
                return grief.laws();
            case 4:
                return tape.size();
            case 5:
                return grief.holding();
            case 6:
                return ink.year();
            case 7:
                return ink.unrest();
            case 8:
                return ink.drowned();
            case 9:
                return fliesBelow;
            case 10:
                return clues.noted();
            case 11:
                return ink.logged();
            case 12:
                return history.acts();
            default:
                return HIDDEN;
        }
    }

    /** The bytes fed so far; none of them is 0, so 0 stands for what is behind the last. */
    private static final class Tape {
        static final int MOST = 240;
        static final int END = 0;
        private final int[] bytes = new int[MOST];
        private int length;

        static int bytesIn(int number) {
            int many = 0;
            for (int shift = 24; shift >= 0; shift -= 8) {
                if ((number >>> shift & 255) != 0) {
                    many++;
                }
            }
            return many;
        }

        int size() {
            return length;
        }

        void append(int number) {
            for (int shift = 24; shift >= 0; shift -= 8) {
                int sign = number >>> shift & 255;
                if (sign != 0 && length < MOST) {
                    bytes[length] = sign;
                    length++;
                }
            }
        }

        void cut(int n) {
            if (n >= 0 && n < length) {
                length = n;
            }
        }

        int at(int i) {
            return i >= 0 && i < length ? bytes[i] : END;
        }

        int behindBlanks(int from) {
            int i = from < 0 ? 0 : from;
            while (i < length && bytes[i] == ' ') {
                i++;
            }
            return i;
        }

        /** How many digits stand at once from there on, counted up to most. */
        int digitsFrom(int from, int most) {
            int many = 0;
            for (int i = from; i >= 0 && i < length && many < most && bytes[i] >= '0' && bytes[i] <= '9'; i++) {
                many++;
            }
            return many;
        }

        int number(int from, int digits) {
            int number = 0;
            for (int i = from; i >= 0 && i < length && i < from + digits; i++) {
                number = number * 10 + bytes[i] - '0';
            }
            return number;
        }
    }

    /** What a MINISTRY's TEXT tells: its CLAUSES by kind, each a row of three numbers. */
    private static final class Ministry {
        static final int RULES = 0;
        static final int WELLS = 1;
        static final int NAMES = 2;
        static final int FILES = 3;
        static final int KINDS = 4;
        static final int ITEMS = 3;
        static final int WELLS_MOST = 4;
        static final int NAMES_MOST = 7;
        private static final int CLAUSES = 18;
        private static final int NAMES_FEWEST = 2;
        private static final int[] MOST = {1, 4, 7, 6};
        private static final int[] FIRST = {0, 1, 5, 12};
        private static final int[] USUAL = {1, 20, 0, 8, 0, 0, 2, 0, 0, 0, 1, 0};
        private final int[] told = new int[CLAUSES * ITEMS];
        private final int[] many = new int[KINDS];

        void clear() {
            for (int kind = 0; kind < KINDS; kind++) {
                many[kind] = 0;
            }
            setUsual(RULES, 0);
        }

        void copyFrom(Ministry other) {
            System.arraycopy(other.told, 0, told, 0, told.length);
            System.arraycopy(other.many, 0, many, 0, many.length);
        }

        /** One more CLAUSE of a kind, as if nothing were told in it; false: there are as many as may be. */
        boolean open(int kind) {
            if (many[kind] >= MOST[kind]) {
                return false;
            }
            setUsual(kind, many[kind]);
            many[kind]++;
            return true;
        }

        private void setUsual(int kind, int clause) {
            for (int item = 0; item < ITEMS; item++) {
                told[(FIRST[kind] + clause) * ITEMS + item] = USUAL[kind * ITEMS + item];
            }
        }

        void tellLatest(int kind, int item, int number) {
            if (many[kind] > 0) {
                told[(FIRST[kind] + many[kind] - 1) * ITEMS + item] = number;
            }
        }

        private int value(int kind, int clause, int item) {
            boolean within = clause >= 0 && clause < MOST[kind];
            return within ? told[(FIRST[kind] + clause) * ITEMS + item] : 0;
        }

        /** Whether what only the whole TEXT can show is as it must be. */
        boolean isWhole() {
            return wells() > 0 && names() >= NAMES_FEWEST && knowOthers() && filesHoldTwo();
        }

        private boolean knowOthers() {
            for (int name = 0; name < names(); name++) {
                if (!hasName(knows(name)) || knows(name) == name) {
                    return false;
                }
            }
            return true;
        }

        private boolean filesHoldTwo() {
            for (int file = 0; file < files(); file++) {
                int one = inFile(file, 0);
                int other = inFile(file, 1);
                if (!hasName(one) || !hasName(other) || one == other) {
                    return false;
                }
            }
            return true;
        }

        boolean stands() {
            return names() > 0;
        }

        int wells() {
            return many[WELLS];
        }

        int names() {
            return many[NAMES];
        }

        int files() {
            return many[FILES];
        }

        boolean hasWell(int well) {
            return well >= 0 && well < many[WELLS];
        }

        boolean hasName(int name) {
            return name >= 0 && name < many[NAMES];
        }

        boolean hasFile(int file) {
            return file >= 0 && file < many[FILES];
        }

        /** All NAMES, as bits. */
        int all() {
            return (1 << many[NAMES]) - 1;
        }

        int dropsOfSyllable() {
            return value(RULES, 0, 0);
        }

        int firstCoins() {
            return value(RULES, 0, 1);
        }

        int firstDepth(int well) {
            return value(WELLS, well, 0);
        }

        boolean isRed(int well) {
            return value(WELLS, well, 1) == 1;
        }

        int syllables(int name) {
            return value(NAMES, name, 0);
        }

        int knows(int name) {
            return value(NAMES, name, 1);
        }

        boolean isForeign(int name) {
            return value(NAMES, name, 2) == 1;
        }

        boolean isHisColour(int name, int well) {
            return isForeign(name) == isRed(well);
        }

        int inFile(int file, int which) {
            return value(FILES, file, which == 0 ? 0 : 1);
        }

        int gaps(int file, int set) {
            return (set >> inFile(file, 0) & 1) + (set >> inFile(file, 1) & 1);
        }

        int drops(int name) {
            return value(NAMES, name, 0) * value(RULES, 0, 0);
        }

        int dropsOf(int set) {
            int syllables = 0;
            for (int name = 0; name < many[NAMES]; name++) {
                if ((set >> name & 1) == 1) {
                    syllables += value(NAMES, name, 0);
                }
            }
            return syllables * value(RULES, 0, 0);
        }

        int knownBy(int name) {
            int bits = 0;
            for (int other = 0; other < many[NAMES]; other++) {
                if (value(NAMES, other, 1) == name) {
                    bits |= 1 << other;
                }
            }
            return bits;
        }

        int longest() {
            int longest = 0;
            for (int name = 1; name < names(); name++) {
                if (syllables(name) > syllables(longest)) {
                    longest = name;
                }
            }
            return longest;
        }
    }

    /** Reads the TAPE as a MINISTRY into a draft; where it stops is the FAULT. */
    private static final class MinistryReader {
        private static final int DIGITS = 2;
        private static final char[] KIND = {'s', 'w', 'n', 'f'};
        // A kind with two ITEMS has a third one of a byte that is never on the TAPE.
        private static final char[] ITEM = {'d', 'c', 0, 'd', 'r', 0, 's', 'f', 'o', 'a', 'b', 0};
        private static final int[] LOW = {1, 0, 0, 0, 0, 0, 1, 0, 0, 0, 0, 0};
        private static final int[] HIGH = {3, 99, 0, 30, 1, 0, 5, 6, 1, 6, 6, 0};
        private final Tape tape;
        private final Ministry draft = new Ministry();
        private int at;

        MinistryReader(Tape tape) {
            this.tape = tape;
        }

        Ministry draft() {
            return draft;
        }

        int read() {
            draft.clear();
            at = tape.behindBlanks(0);
            boolean more = true;
            for (int clause = 0; more && clause < Tape.MOST; clause++) {
                if (!readClause()) {
                    return at;
                }
                more = tape.at(at) == ';';
                if (more) {
                    step();
                }
            }
            return at == tape.size() && draft.isWhole() ? NONE : at;
        }

        private void step() {
            at = tape.behindBlanks(at + 1);
        }

        private boolean readClause() {
            int kind = kindOf(tape.at(at));
            if (kind == NONE || !draft.open(kind)) {
                return false;
            }
            step();
            int told = 0;
            for (int turn = 0; turn < Ministry.ITEMS; turn++) {
                int item = itemOf(kind, tape.at(at));
                if (item == NONE) {
                    return true;
                }
                if ((told >> item & 1) == 1) {
                    return false;
                }
                told |= 1 << item;
                step();
                if (!readNumber(kind, item)) {
                    return false;
                }
            }
            return true;
        }

        private boolean readNumber(int kind, int item) {
            int digits = tape.digitsFrom(at, DIGITS + 1);
            if (digits == 0) {
                return false;
            }
            if (digits > DIGITS) {
                at += DIGITS;
                return false;
            }
            int number = tape.number(at, digits);
            at += digits - 1;
            if (number < LOW[kind * Ministry.ITEMS + item] || number > HIGH[kind * Ministry.ITEMS + item]) {
                return false;
            }
            draft.tellLatest(kind, item, number);
            step();
            return true;
        }

        private static int kindOf(int sign) {
            for (int kind = 0; kind < KIND.length; kind++) {
                if (sign == KIND[kind]) {
                    return kind;
                }
            }
            return NONE;
        }

        private static int itemOf(int kind, int sign) {
            for (int item = 0; item < Ministry.ITEMS; item++) {
                if (sign != Tape.END && sign == ITEM[kind * Ministry.ITEMS + item]) {
                    return item;
                }
            }
            return NONE;
        }
    }

    /** A LAW as signs behind their numbers, so that it is weighed in one walk without recursion. */
    private static final class Law {
        static final int NUMBER = 0;
        static final int LETTER = 1;
        // Ends a CLAUSE: its SUM is the WORTH.
        static final int WORTH = 2;
        // Ends a CONDITION: goes on at the next CLAUSE, if it does not hold.
        static final int UNLESS = 3;
        private static final int BOUND = 1000000;
        private static final int CELL = 10000;
        // Every cell but UNLESS and WORTH comes from a byte of its own; these two from : and ?.
        private static final int CELLS = Tape.MOST;
        // Six of ( [ ! within one another leave some twenty numbers open at once.
        private static final int OPEN = 64;
        private final int[] cells = new int[CELLS];
        private final int[] open = new int[OPEN];
        private int length;
        private int top;

        void clear() {
            length = 0;
        }

        void copyFrom(Law other) {
            System.arraycopy(other.cells, 0, cells, 0, cells.length);
            length = other.length;
        }

        int length() {
            return length;
        }

        void add(int sign, int number) {
            if (length < CELLS) {
                cells[length] = sign * CELL + number;
                length++;
            }
        }

        /** Tells the UNLESS of a CLAUSE where the next one begins, which is known only behind it. */
        void goOnHere(int unless) {
            if (unless >= 0 && unless < length) {
                cells[unless] = UNLESS * CELL + length;
            }
        }

        int weigh(int[] letters) {
            top = 0;
            for (int i = 0; i < length; i++) {
                int sign = cells[i] / CELL;
                int number = cells[i] % CELL;
                switch (sign) {
                    case NUMBER:
                        push(number);
                        break;
                    case LETTER:
                        push(number < letters.length ? letters[number] : 0);
                        break;
                    case WORTH:
                        return pop();
                    case UNLESS:
                        if (pop() == 0) {
                            i = Math.max(i, number - 1);
                        }
                        break;
                    case '!':
                        push(pop() == 0 ? 1 : 0);
                        break;
                    default:
                        int right = pop();
                        push(join(sign, pop(), right));
                        break;
                }
            }
            return 0;
        }

        private void push(int number) {
            if (top < OPEN) {
                open[top] = number;
                top++;
            }
        }

        private int pop() {
            if (top <= 0) {
                return 0;
            }
            top--;
            return open[top];
        }

        private static int join(int sign, int left, int right) {
            switch (sign) {
                case '+':
                    return bounded(left + right);
                case '-':
                    return bounded(left - right);
                case '*':
                    return bounded((long) left * right);
                case '/':
                    return right == 0 ? 0 : left / right;
                case '=':
                    return left == right ? 1 : 0;
                case '<':
                    return left < right ? 1 : 0;
                case '>':
                    return left > right ? 1 : 0;
                case '&':
                    return left & right;
                case '|':
                    return left | right;
                default:
                    return 0;
            }
        }

        private static int bounded(long number) {
            return (int) (number < -BOUND ? -BOUND : number > BOUND ? BOUND : number);
        }
    }

    /** Reads the TAPE as a LAW into a draft; where it stops is the FAULT. */
    private static final class LawReader {
        private static final int DIGITS = 4;
        private static final int NESTED_MOST = 6;
        private static final char[] LETTERS = {'s', 'k', 'a', 'o', 'w', 'y'};
        private final Tape tape;
        private final Law draft = new Law();
        private int at;

        LawReader(Tape tape) {
            this.tape = tape;
        }

        Law draft() {
            return draft;
        }

        int read() {
            draft.clear();
            at = tape.behindBlanks(0);
            boolean more = true;
            for (int clause = 0; more && clause < Tape.MOST; clause++) {
                if (!readClause()) {
                    return at;
                }
                more = take(';');
            }
            return at == tape.size() ? NONE : at;
        }

        private void step() {
            at = tape.behindBlanks(at + 1);
        }

        private boolean take(int sign) {
            if (tape.at(at) != sign) {
                return false;
            }
            at = tape.behindBlanks(at + 1);
            return true;
        }

        private boolean readClause() {
            if (!take('y') || !take(':')) {
                return false;
            }
            boolean sumRead = tape.at(at) != '!' && tape.at(at) != '(';
            if (sumRead && !readSum(0)) {
                return false;
            }
            int unless = NONE;
            if (!sumRead || isComparison(tape.at(at))) {
                if (!readCondition(0, sumRead) || !take('?')) {
                    return false;
                }
                unless = draft.length();
                draft.add(Law.UNLESS, 0);
                if (!readSum(0)) {
                    return false;
                }
            }
            draft.add(Law.WORTH, 0);
            draft.goOnHere(unless);
            return true;
        }

        // sumRead: that the SUM which begins the first UNIT stands in the draft already.
        private boolean readCondition(int nested, boolean sumRead) {
            if (!readTruth(nested, sumRead)) {
                return false;
            }
            for (int turn = 0; turn < Tape.MOST && tape.at(at) == '|'; turn++) {
                step();
                if (!readTruth(nested, false)) {
                    return false;
                }
                draft.add('|', 0);
            }
            return true;
        }

        private boolean readTruth(int nested, boolean sumRead) {
            if (!readUnit(nested, sumRead)) {
                return false;
            }
            for (int turn = 0; turn < Tape.MOST && tape.at(at) == '&'; turn++) {
                step();
                if (!readUnit(nested, false)) {
                    return false;
                }
                draft.add('&', 0);
            }
            return true;
        }

        private boolean readUnit(int nested, boolean sumRead) {
            int sign = sumRead ? Tape.END : tape.at(at);
            if (sign == '!' || sign == '(') {
                return nested < NESTED_MOST && readNestedUnit(nested + 1, sign);
            }
            if (!sumRead && !readSum(nested)) {
                return false;
            }
            int comparison = tape.at(at);
            if (!isComparison(comparison)) {
                return false;
            }
            step();
            if (!readSum(nested)) {
                return false;
            }
            draft.add(comparison, 0);
            return true;
        }

        private boolean readNestedUnit(int nested, int sign) {
            step();
            if (sign == '(') {
                return readCondition(nested, false) && take(')');
            }
            if (!readUnit(nested, false)) {
                return false;
            }
            draft.add('!', 0);
            return true;
        }

        private boolean readSum(int nested) {
            if (!readTerm(nested)) {
                return false;
            }
            for (int turn = 0; turn < Tape.MOST && isEither('+', '-'); turn++) {
                int sign = tape.at(at);
                step();
                if (!readTerm(nested)) {
                    return false;
                }
                draft.add(sign, 0);
            }
            return true;
        }

        private boolean readTerm(int nested) {
            if (!readAtom(nested)) {
                return false;
            }
            for (int turn = 0; turn < Tape.MOST && isEither('*', '/'); turn++) {
                int sign = tape.at(at);
                step();
                if (!readAtom(nested)) {
                    return false;
                }
                draft.add(sign, 0);
            }
            return true;
        }

        private boolean readAtom(int nested) {
            int sign = tape.at(at);
            if (sign == '[') {
                if (nested >= NESTED_MOST) {
                    return false;
                }
                step();
                return readSum(nested + 1) && take(']');
            }
            int letter = letterOf(sign);
            if (letter == NONE) {
                return readNumber();
            }
            draft.add(Law.LETTER, letter);
            step();
            return true;
        }

        private boolean readNumber() {
            int digits = tape.digitsFrom(at, DIGITS + 1);
            if (digits == 0) {
                return false;
            }
            if (digits > DIGITS) {
                at += DIGITS;
                return false;
            }
            draft.add(Law.NUMBER, tape.number(at, digits));
            at = tape.behindBlanks(at + digits);
            return true;
        }

        private boolean isEither(int one, int other) {
            return tape.at(at) == one || tape.at(at) == other;
        }

        private static boolean isComparison(int sign) {
            return sign == '=' || sign == '<' || sign == '>';
        }

        private static int letterOf(int sign) {
            for (int letter = 0; letter < LETTERS.length; letter++) {
                if (sign == LETTERS[letter]) {
                    return letter;
                }
            }
            return NONE;
        }
    }

    /** What ACTS change: who lies where, DEPTHS, COINS, UNREST, the YEAR, the LOG. */
    private static final class Ink {
        static final int DEPTH_MOST = 30;
        static final int COINS_MOST = 999;
        static final int UNREST_MOST = 9999;
        static final int YEAR_MOST = 999;
        static final int ROW = 2 * Ministry.NAMES_MOST + Ministry.WELLS_MOST + 3;
        private static final int LOG_MOST = 60;
        // So many that a YEAR that is UNDONE still finds what it had pushed out of the LOG.
        private static final int LOG_KEPT = LOG_MOST + History.ACTS_MOST;
        private final Ministry ministry;
        private final int[] wellOf = new int[Ministry.NAMES_MOST];
        private final int[] layerOf = new int[Ministry.NAMES_MOST];
        private final int[] depths = new int[Ministry.WELLS_MOST];
        private final int[] logWho = new int[LOG_KEPT];
        private final int[] logMissed = new int[LOG_KEPT];
        private int coins;
        private int unrest;
        private int year;

        Ink(Ministry ministry) {
            this.ministry = ministry;
        }

        void start() {
            for (int name = 0; name < Ministry.NAMES_MOST; name++) {
                wellOf[name] = NONE;
                layerOf[name] = 0;
            }
            for (int well = 0; well < Ministry.WELLS_MOST; well++) {
                depths[well] = ministry.firstDepth(well);
            }
            coins = ministry.firstCoins();
            unrest = 0;
            year = 0;
        }

        void copyFrom(Ink other) {
            System.arraycopy(other.wellOf, 0, wellOf, 0, wellOf.length);
            System.arraycopy(other.layerOf, 0, layerOf, 0, layerOf.length);
            System.arraycopy(other.depths, 0, depths, 0, depths.length);
            System.arraycopy(other.logWho, 0, logWho, 0, logWho.length);
            System.arraycopy(other.logMissed, 0, logMissed, 0, logMissed.length);
            coins = other.coins;
            unrest = other.unrest;
            year = other.year;
        }

        /** All but the LOG, whose latest ones are found again by the YEAR alone. */
        void writeTo(int[] rows, int from) {
            if (from < 0 || from + ROW > rows.length) {
                return;
            }
            System.arraycopy(wellOf, 0, rows, from, wellOf.length);
            System.arraycopy(layerOf, 0, rows, from + wellOf.length, layerOf.length);
            System.arraycopy(depths, 0, rows, from + 2 * wellOf.length, depths.length);
            rows[from + ROW - 3] = coins;
            rows[from + ROW - 2] = unrest;
            rows[from + ROW - 1] = year;
        }

        void readFrom(int[] rows, int from) {
            if (from < 0 || from + ROW > rows.length) {
                return;
            }
            System.arraycopy(rows, from, wellOf, 0, wellOf.length);
            System.arraycopy(rows, from + wellOf.length, layerOf, 0, layerOf.length);
            System.arraycopy(rows, from + 2 * wellOf.length, depths, 0, depths.length);
            coins = rows[from + ROW - 3];
            unrest = rows[from + ROW - 2];
            year = rows[from + ROW - 1];
        }

        int coins() {
            return coins;
        }

        int unrest() {
            return unrest;
        }

        int year() {
            return year;
        }

        int depth(int well) {
            return ministry.hasWell(well) ? depths[well] : 0;
        }

        int wellOf(int name) {
            return ministry.hasName(name) ? wellOf[name] : NONE;
        }

        boolean isFree(int name) {
            return wellOf(name) == NONE;
        }

        private boolean liesOver(int other, int name) {
            return wellOf[other] != NONE && wellOf[other] == wellOf[name] && layerOf[other] > layerOf[name];
        }

        /** Who lies in a WELL, as bits. */
        int inside(int well) {
            int bits = 0;
            for (int name = 0; name < ministry.names(); name++) {
                if (wellOf[name] == well) {
                    bits |= 1 << name;
                }
            }
            return bits;
        }

        int drowned() {
            return ministry.all() & ~inside(NONE);
        }

        int free() {
            return inside(NONE);
        }

        int room(int well) {
            return depth(well) - ministry.dropsOf(inside(well));
        }

        boolean takes(int well, int name) {
            return ministry.isHisColour(name, well) && ministry.drops(name) <= room(well);
        }

        int lyingAt(int well, int layer) {
            for (int name = 0; name < ministry.names(); name++) {
                if (wellOf[name] == well && layerOf[name] == layer) {
                    return name;
                }
            }
            return NONE;
        }

        /** DROPS ABOVE one, if of the DROWNED these alone still lay in their WELLS. */
        int above(int name, int these) {
            int over = 0;
            for (int other = 0; other < ministry.names(); other++) {
                if ((these >> other & 1) == 1 && liesOver(other, name)) {
                    over |= 1 << other;
                }
            }
            return ministry.dropsOf(over);
        }

        /** Who would come up by a pen, if of the DROWNED these alone still lay in their WELLS. */
        int comesUp(int well, int deep, int these) {
            int lowest = NONE;
            for (int name = 0; name < ministry.names(); name++) {
                if ((these >> name & 1) == 1 && wellOf[name] == well
                        && (lowest == NONE || liesOver(lowest, name))
                        && above(name, these) + ministry.drops(name) <= deep) {
                    lowest = name;
                }
            }
            return lowest;
        }

        void drown(int name, int well) {
            if (ministry.hasName(name)) {
                layerOf[name] = Integer.bitCount(inside(well));
                wellOf[name] = well;
            }
        }

        int scratchUp(int well, int deep) {
            int up = comesUp(well, deep, drowned());
            lift(up);
            return up;
        }

        int liftUppermost(int well) {
            int up = lyingAt(well, Integer.bitCount(inside(well)) - 1);
            lift(up);
            return up;
        }

        int liftAll(int well) {
            int many = 0;
            for (int name = 0; name < ministry.names(); name++) {
                if (wellOf[name] == well) {
                    lift(name);
                    many++;
                }
            }
            return many;
        }

        private void lift(int name) {
            if (isFree(name)) {
                return;
            }
            for (int other = 0; other < ministry.names(); other++) {
                if (liesOver(other, name)) {
                    layerOf[other]--;
                }
            }
            wellOf[name] = NONE;
            layerOf[name] = 0;
        }

        void pay(int price) {
            coins -= price;
        }

        void earn(int more) {
            coins = Math.min(COINS_MOST, coins + more);
        }

        void deepen(int well) {
            if (ministry.hasWell(well)) {
                depths[well]++;
            }
        }

        void passYear(int missed) {
            unrest = Math.min(UNREST_MOST, unrest + missed);
            earn(Integer.bitCount(free()));
            logWho[logCell(0)] = drowned();
            logMissed[logCell(0)] = missed;
            year++;
        }

        // Each YEAR writes one row of the LOG, so the YEAR tells its cell.
        private int logCell(int yearsAgo) {
            return Math.floorMod(year - yearsAgo, LOG_KEPT);
        }

        int logged() {
            return Math.min(year, LOG_MOST);
        }

        int loggedWho(int i) {
            return logWho[logCell(i + 1)];
        }

        int loggedMissed(int i) {
            return logMissed[logCell(i + 1)];
        }

        int deepest() {
            int deepest = 0;
            for (int well = 1; well < ministry.wells(); well++) {
                if (depth(well) > depth(deepest)) {
                    deepest = well;
                }
            }
            return deepest;
        }

        int fullest() {
            int fullest = 0;
            for (int well = 1; well < ministry.wells(); well++) {
                if (ministry.dropsOf(inside(well)) > ministry.dropsOf(inside(fullest))) {
                    fullest = well;
                }
            }
            return fullest;
        }
    }

    /** What was ahead of each of the latest ACTS, in rows that go round. */
    private static final class History {
        static final int ACTS_MOST = 40;
        private final int[] rows = new int[ACTS_MOST * Ink.ROW];
        private int next;
        private int acts;

        int acts() {
            return acts;
        }

        void forget() {
            acts = 0;
        }

        void keep(Ink ink) {
            ink.writeTo(rows, next * Ink.ROW);
            next = (next + 1) % ACTS_MOST;
            acts = Math.min(ACTS_MOST, acts + 1);
        }

        boolean takeBack(Ink ink) {
            if (acts == 0) {
                return false;
            }
            acts--;
            next = (next + ACTS_MOST - 1) % ACTS_MOST;
            ink.readFrom(rows, next * Ink.ROW);
            return true;
        }
    }

    /** How much one is MISSED, by the LAW that holds, and what hangs on it. */
    private static final class Grief {
        static final int LAWS_MOST = 4;
        private static final int MISSED_MOST = 30;
        private static final int LETTERS = 6;
        private final Ministry ministry;
        private final Ink ink;
        private final Law[] laws = new Law[LAWS_MOST];
        private final int[] letters = new int[LETTERS];
        private int passed;
        private int holding = NONE;

        Grief(Ministry ministry, Ink ink) {
            this.ministry = ministry;
            this.ink = ink;
            for (int law = 0; law < LAWS_MOST; law++) {
                laws[law] = new Law();
            }
        }

        int laws() {
            return passed;
        }

        int holding() {
            return holding;
        }

        /** One more LAW, its number. */
        int pass(Law draft) {
            if (passed >= LAWS_MOST) {
                return NONE;
            }
            laws[passed].copyFrom(draft);
            passed++;
            return passed - 1;
        }

        boolean hold(int law) {
            if (law < NONE || law >= passed) {
                return false;
            }
            holding = law;
            return true;
        }

        int missed(int name) {
            int well = ink.isFree(name) ? ministry.wells() : ink.wellOf(name);
            return missedIn(well, name, ink.above(name, ink.drowned()), ink.free());
        }

        /** How much one would be MISSED in a WELL beneath so much, if these were free. */
        private int missedIn(int well, int name, int above, int free) {
            int knowing = Integer.bitCount(ministry.knownBy(name) & free);
            if (holding < 0 || holding >= LAWS_MOST) {
                return ministry.syllables(name) + 2 * knowing;
            }
            letters[0] = ministry.syllables(name);
            letters[1] = knowing;
            letters[2] = above;
            letters[3] = ministry.isForeign(name) ? 1 : 0;
            letters[4] = well;
            letters[5] = ink.year();
            return Math.max(0, Math.min(MISSED_MOST, laws[holding].weigh(letters)));
        }

        /** How much all DROWNED ones are MISSED now. */
        int ofDrowned() {
            return withoutThese(0);
        }

        /** How much all others who are DROWNED would be MISSED, if these had come up. */
        private int withoutThese(int up) {
            int drowned = ink.drowned() & ~up;
            int free = ink.free() | up;
            int missed = 0;
            for (int name = 0; name < ministry.names(); name++) {
                if ((drowned >> name & 1) == 1) {
                    missed += missedIn(ink.wellOf(name), name, ink.above(name, drowned), free);
                }
            }
            return missed;
        }

        int leastMissed() {
            int best = NONE;
            int least = 0;
            for (int name = 0; name < ministry.names(); name++) {
                int well = ink.isFree(name) ? lowestTaking(name) : NONE;
                if (well != NONE) {
                    int missed = missedIn(well, name, 0, ink.free() & ~(1 << name));
                    if (best == NONE || missed < least) {
                        best = name;
                        least = missed;
                    }
                }
            }
            return best;
        }

        private int lowestTaking(int name) {
            for (int well = 0; well < ministry.wells(); well++) {
                if (ink.takes(well, name)) {
                    return well;
                }
            }
            return NONE;
        }

        int net() {
            int many = 0;
            for (int name = 0; name < ministry.names(); name++) {
                if (ink.isFree(name) && !ink.isFree(ministry.knows(name))) {
                    many++;
                }
            }
            return many;
        }

        int amnesty() {
            int best = 0;
            int least = withoutThese(ink.inside(0));
            for (int well = 1; well < ministry.wells(); well++) {
                int missed = withoutThese(ink.inside(well));
                if (missed < least) {
                    best = well;
                    least = missed;
                }
            }
            return best;
        }

        int dearest() {
            int dearest = NONE;
            int most = NONE;
            for (int name = 0; name < ministry.names(); name++) {
                int knowing = Integer.bitCount(ministry.knownBy(name) & ink.free());
                if (ink.isFree(name) && knowing > most) {
                    dearest = name;
                    most = knowing;
                }
            }
            return dearest;
        }

        int yearsUntil(int unrest) {
            int lacking = unrest - ink.unrest();
            int eachYear = ofDrowned();
            if (lacking <= 0) {
                return 0;
            }
            if (eachYear <= 0) {
                return NONE;
            }
            int years = (lacking + eachYear - 1) / eachYear;
            return years <= Ink.YEAR_MOST ? years : NONE;
        }
    }

    /** Where a FACTION would go, and whom else it takes for SILENCE. */
    private static final class Plots {
        private final Ministry ministry;
        private final Ink ink;
        private final int[] rooms = new int[Ministry.WELLS_MOST];
        private int fewest;
        private int row;

        Plots(Ministry ministry, Ink ink) {
            this.ministry = ministry;
            this.ink = ink;
        }

        int row() {
            return row;
        }

        int fewest() {
            return fewest;
        }

        boolean place(int set) {
            for (int well = 0; well < ministry.wells(); well++) {
                rooms[well] = ink.room(well);
            }
            fewest = ministry.wells() + 1;
            row = NONE;
            placeFrom(0, set, 0, 0);
            return row != NONE;
        }

        // Rows come up rising, so a later one with as many WELLS is never the least.
        private void placeFrom(int name, int set, int digits, int used) {
            if (Integer.bitCount(used) >= fewest) {
                return;
            }
            if (name >= ministry.names()) {
                fewest = Integer.bitCount(used);
                row = digits;
                return;
            }
            if ((set >> name & 1) == 0) {
                placeFrom(name + 1, set, digits, used);
                return;
            }
            int drops = ministry.drops(name);
            for (int well = 0; well < ministry.wells() && well < rooms.length; well++) {
                if (ministry.isHisColour(name, well) && drops <= rooms[well]) {
                    rooms[well] -= drops;
                    placeFrom(name + 1, set, digits * 10 + well, used | 1 << well);
                    rooms[well] += drops;
                }
            }
        }

        int silenced(int set) {
            int silent = set;
            for (int turn = 0; turn < ministry.names(); turn++) {
                for (int name = 0; name < ministry.names(); name++) {
                    if ((silent >> ministry.knows(name) & 1) == 1) {
                        silent |= 1 << name;
                    }
                }
            }
            return silent;
        }
    }

    /** What was SEEN of FILES, and the sets of NAMES by which it is so. */
    private static final class Clues {
        private static final int SEEN_MOST = 10;
        private static final int GAPS_MOST = 2;
        private final Ministry ministry;
        private final int[] files = new int[SEEN_MOST];
        private final int[] gaps = new int[SEEN_MOST];
        private final int[] parts = new int[GAPS_MOST + 1];
        private int noted;

        Clues(Ministry ministry) {
            this.ministry = ministry;
        }

        int noted() {
            return noted;
        }

        void forget() {
            noted = 0;
        }

        int note(int file, int g) {
            if (!ministry.hasFile(file) || g < 0 || g > GAPS_MOST || noted >= SEEN_MOST) {
                return NONE;
            }
            files[noted] = file;
            gaps[noted] = g;
            noted++;
            return noted;
        }

        boolean canAsk(int k) {
            return ministry.stands() && k >= 0 && k <= Ministry.NAMES_MOST;
        }

        private boolean fits(int set, int k) {
            if (Integer.bitCount(set) != k) {
                return false;
            }
            for (int i = 0; i < noted && i < SEEN_MOST; i++) {
                if (ministry.gaps(files[i], set) != gaps[i]) {
                    return false;
                }
            }
            return true;
        }

        int sets(int k) {
            int many = 0;
            for (int set = 0; set <= ministry.all(); set++) {
                if (fits(set, k)) {
                    many++;
                }
            }
            return many;
        }

        int setAt(int k, int i) {
            int ahead = 0;
            for (int set = 0; set <= ministry.all(); set++) {
                if (fits(set, k)) {
                    if (ahead == i) {
                        return set;
                    }
                    ahead++;
                }
            }
            return NONE;
        }

        int inAll(int k) {
            int common = NONE;
            for (int set = 0; set <= ministry.all(); set++) {
                if (fits(set, k)) {
                    common = common == NONE ? set : common & set;
                }
            }
            return common;
        }

        int bestFile(int k) {
            int best = NONE;
            int fewest = 0;
            for (int file = 0; file < ministry.files(); file++) {
                int most = mostOfASort(file, k);
                if (best == NONE || most < fewest) {
                    best = file;
                    fewest = most;
                }
            }
            return best;
        }

        private int mostOfASort(int file, int k) {
            for (int g = 0; g <= GAPS_MOST; g++) {
                parts[g] = 0;
            }
            for (int set = 0; set <= ministry.all(); set++) {
                if (fits(set, k)) {
                    parts[ministry.gaps(file, set)]++;
                }
            }
            return Math.max(parts[0], Math.max(parts[1], parts[2]));
        }
    }

    /** What pens would do: how deep for one, GAMES of two and their RESTS, ODDS. */
    private static final class Pens {
        static final int DEEPEST = 9;
        static final int SCRATCHES_MOST = 4;
        static final int PARTS = 1000000000;
        private static final int PRIZE = 5;
        private final Ministry ministry;
        private final Ink ink;
        private final int[] upBy = new int[DEEPEST + 1];

        Pens(Ministry ministry, Ink ink) {
            this.ministry = ministry;
            this.ink = ink;
        }

        int fewestDrops(int name) {
            int drops = ink.above(name, ink.drowned()) + ministry.drops(name);
            return ink.isFree(name) || drops > DEEPEST ? NONE : drops;
        }

        /** Finds once who comes up by each depth, as GAMES and RESTS ask for it many times. */
        void setUp(int well) {
            for (int deep = 0; deep <= DEEPEST; deep++) {
                upBy[deep] = ink.comesUp(well, deep, ink.drowned());
            }
        }

        int gain(int player, int own, int others) {
            int deep = Math.max(0, Math.min(DEEPEST, Math.max(own, others)));
            return (upBy[deep] == ministry.knows(player) ? PRIZE : 0) - own;
        }

        int restCount(int one, int other) {
            int many = 0;
            for (int x = 0; x <= DEEPEST; x++) {
                for (int y = 0; y <= DEEPEST; y++) {
                    if (hasNoBetter(one, x, y) && hasNoBetter(other, y, x)) {
                        many++;
                    }
                }
            }
            return many;
        }

        int restAt(int one, int other, int i) {
            int ahead = 0;
            for (int x = 0; x <= DEEPEST; x++) {
                for (int y = 0; y <= DEEPEST; y++) {
                    if (hasNoBetter(one, x, y) && hasNoBetter(other, y, x)) {
                        if (ahead == i) {
                            return 10 * x + y;
                        }
                        ahead++;
                    }
                }
            }
            return NONE;
        }

        private boolean hasNoBetter(int player, int own, int others) {
            for (int another = 0; another <= DEEPEST; another++) {
                if (gain(player, another, others) > gain(player, own, others)) {
                    return false;
                }
            }
            return true;
        }

        /** Of so many parts those by which one comes up, if these alone still lay in their WELLS. */
        int partsUp(int name, int scratches, int these, int parts) {
            if (scratches <= 0) {
                return 0;
            }
            int third = parts / 3;
            return partsUpBy(3, name, scratches, these, third)
                    + partsUpBy(5, name, scratches, these, third)
                    + partsUpBy(7, name, scratches, these, parts - 2 * third);
        }

        private int partsUpBy(int deep, int name, int scratches, int these, int parts) {
            int up = ink.comesUp(ink.wellOf(name), deep, these);
            if (up == name) {
                return parts;
            }
            int still = up == NONE ? these : these & ~(1 << up);
            return partsUp(name, scratches - 1, still, parts);
        }
    }
}
