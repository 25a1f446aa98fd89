import java.util.ArrayDeque;
import java.util.ArrayList;
import java.util.Collections;
import java.util.Deque;
import java.util.List;
import java.util.NoSuchElementException;

/**
 * The document once more, written as plainly as the Java library lets one and without a look at speed or room:
 * wells are lists, every act keeps a whole copy, questions are answered by trying all there is on copies.
 */
final class Model {
    static final int NONE = -1;
    static final int HIDDEN = -1000000;

    /** What a text of a ministry tells. */
    static final class Office {
        final int[] rules = {1, 20};
        final List<int[]> wells = new ArrayList<>();
        final List<int[]> names = new ArrayList<>();
        final List<int[]> files = new ArrayList<>();
    }

    /** What acts change. */
    static final class State {
        final List<List<Integer>> wells = new ArrayList<>();
        final List<Integer> depths = new ArrayList<>();
        final List<int[]> log = new ArrayList<>();
        int coins;
        int unrest;
        int year;

        State copy() {
            State copy = new State();
            for (List<Integer> well : wells) {
                copy.wells.add(new ArrayList<>(well));
            }
            copy.depths.addAll(depths);
            copy.log.addAll(log);
            copy.coins = coins;
            copy.unrest = unrest;
            copy.year = year;
            return copy;
        }
    }

    private String tape = "";
    private Office office = new Office();
    private boolean stands;
    private State now = new State();
    private State image;
    private final Deque<State> acts = new ArrayDeque<>();
    private final List<String> laws = new ArrayList<>();
    private final List<int[]> clues = new ArrayList<>();
    private final int[] refused = new int[5];
    private int holds = NONE;
    private int flyLine = 3;

    // ---- the tape and its texts

    int feed(int a, int b, int c, int d, int e) {
        StringBuilder more = new StringBuilder(tape);
        for (int word : new int[] {a, b, c, d, e}) {
            for (int i = 3; i >= 0; i--) {
                char sign = (char) (word >>> 8 * i & 255);
                if (sign != 0) {
                    more.append(sign);
                }
            }
        }
        if (more.length() > 240) {
            return NONE;
        }
        tape = more.toString();
        return tape.length();
    }

    boolean end(int n) {
        if (n < 0 || n > tape.length()) {
            return false;
        }
        tape = tape.substring(0, n);
        return true;
    }

    int fault(int sort) {
        return sort == 0 ? ministryFault(tape, new Office()) : sort == 1 ? LawModel.fault(tape) : -2;
    }

    int text(int sort) {
        if (sort == 0) {
            Office told = new Office();
            if (ministryFault(tape, told) != NONE) {
                return NONE;
            }
            office = told;
            stands = true;
            now = new State();
            now.coins = told.rules[1];
            for (int[] well : told.wells) {
                now.wells.add(new ArrayList<>());
                now.depths.add(well[0]);
            }
            image = null;
            acts.clear();
            clues.clear();
            tape = "";
            return told.names.size();
        }
        if (sort != 1 || laws.size() == 4 || LawModel.fault(tape) != NONE) {
            return NONE;
        }
        laws.add(tape.replace(" ", ""));
        tape = "";
        return laws.size() - 1;
    }

    /** Looks at longer and longer pieces: a byte is wrong as soon as the piece up to it is no beginning of a text. */
    private static int ministryFault(String text, Office told) {
        String kinds = "swnf";
        String[] items = {"dc", "dr", "sfo", "ab"};
        int[][] low = {{1, 0}, {0, 0}, {1, 0, 0}, {0, 0}};
        int[][] high = {{3, 99}, {30, 1}, {5, 6, 1}, {6, 6}};
        int[] most = {1, 4, 7, 6};
        int[] many = new int[4];
        int kind = NONE;
        int item = NONE;
        String digits = "";
        String was = "";
        int[] clause = null;
        boolean numberOver = false;
        for (int i = 0; i <= text.length(); i++) {
            char sign = i < text.length() ? text.charAt(i) : ';';
            boolean last = i == text.length();
            if (Character.isDigit(sign) && sign < 128) {
                if (item == NONE || numberOver) {
                    return i;
                }
                if (digits.length() == 2) {
                    return i;
                }
                digits += sign;
                boolean goesOn = i + 1 < text.length() && "0123456789".indexOf(text.charAt(i + 1)) >= 0;
                int number = Integer.parseInt(digits);
                if (!goesOn) {
                    if (number < low[kind][item] || number > high[kind][item]) {
                        return i;
                    }
                    clause[item] = number;
                    numberOver = true;
                }
                continue;
            }
            if (sign == ' ') {
                continue;
            }
            if (item != NONE && !numberOver) {
                return i;
            }
            if (sign == ';') {
                if (kind == NONE) {
                    return i;
                }
                kind = NONE;
                item = NONE;
                if (last) {
                    break;
                }
                continue;
            }
            if (kind == NONE) {
                kind = kinds.indexOf(sign);
                if (kind < 0 || many[kind] == most[kind]) {
                    return i;
                }
                many[kind]++;
                clause = open(told, kind);
                was = "";
                item = NONE;
                continue;
            }
            item = items[kind].indexOf(sign);
            if (item < 0 || was.indexOf(sign) >= 0) {
                return i;
            }
            was += sign;
            digits = "";
            numberOver = false;
        }
        return whole(told) ? NONE : text.length();
    }

    private static int[] open(Office told, int kind) {
        if (kind == 0) {
            return told.rules;
        }
        int[] row = kind == 1 ? new int[] {8, 0} : kind == 2 ? new int[] {2, 0, 0} : new int[] {0, 1};
        (kind == 1 ? told.wells : kind == 2 ? told.names : told.files).add(row);
        return row;
    }

    private static boolean whole(Office told) {
        int names = told.names.size();
        boolean whole = !told.wells.isEmpty() && names >= 2;
        for (int i = 0; i < names; i++) {
            whole &= told.names.get(i)[1] < names && told.names.get(i)[1] != i;
        }
        for (int[] file : told.files) {
            whole &= file[0] < names && file[1] < names && file[0] != file[1];
        }
        return whole;
    }

    // ---- what stands

    private boolean noName(int name) {
        return name < 0 || name >= office.names.size();
    }

    private boolean noWell(int well) {
        return well < 0 || well >= office.wells.size();
    }

    private boolean noFile(int file) {
        return file < 0 || file >= office.files.size();
    }

    private int knows(int name) {
        return office.names.get(name)[1];
    }

    private int drops(int name) {
        return office.names.get(name)[0] * office.rules[0];
    }

    private int wellOf(State state, int name) {
        for (int well = 0; well < state.wells.size(); well++) {
            if (state.wells.get(well).contains(name)) {
                return well;
            }
        }
        return NONE;
    }

    private int dropsIn(State state, int well) {
        int drops = 0;
        for (int name : state.wells.get(well)) {
            drops += drops(name);
        }
        return drops;
    }

    private int drowned(State state) {
        int bits = 0;
        for (List<Integer> well : state.wells) {
            for (int name : well) {
                bits += 1 << name;
            }
        }
        return bits;
    }

    private int above(State state, int name) {
        int well = wellOf(state, name);
        int drops = 0;
        if (well != NONE) {
            List<Integer> row = state.wells.get(well);
            for (int i = row.indexOf(name) + 1; i < row.size(); i++) {
                drops += drops(row.get(i));
            }
        }
        return drops;
    }

    private int freeWhoKnow(State state, int name) {
        int many = 0;
        for (int other = 0; other < office.names.size(); other++) {
            if (wellOf(state, other) == NONE && knows(other) == name) {
                many++;
            }
        }
        return many;
    }

    private int missed(State state, int name) {
        int[] told = office.names.get(name);
        int k = freeWhoKnow(state, name);
        if (holds == NONE) {
            return told[0] + 2 * k;
        }
        int well = wellOf(state, name) == NONE ? office.wells.size() : wellOf(state, name);
        long worth = new LawModel(laws.get(holds), told[0], k, above(state, name), told[2], well, state.year).worth();
        return (int) Math.max(0, Math.min(30, worth));
    }

    private int missedInAll(State state) {
        int missed = 0;
        for (int name = 0; name < office.names.size(); name++) {
            if (wellOf(state, name) != NONE) {
                missed += missed(state, name);
            }
        }
        return missed;
    }

    private boolean canDip(State state, int name, int well) {
        return wellOf(state, name) == NONE && office.names.get(name)[2] == office.wells.get(well)[1]
                && dropsIn(state, well) + drops(name) <= state.depths.get(well);
    }

    private int comesUp(State state, int well, int deep) {
        for (int name : state.wells.get(well)) {
            if (drops(name) + above(state, name) <= deep) {
                return name;
            }
        }
        return NONE;
    }

    int rule(int what) {
        return !stands ? NONE : what == 0 ? office.rules[0] : what == 1 ? now.coins : NONE;
    }

    int name(int name, int what) {
        if (noName(name) || what < 0 || what > 5) {
            throw new NoSuchElementException();
        }
        return what < 3 ? office.names.get(name)[what] : what == 3 ? wellOf(now, name)
                : what == 4 ? above(now, name) : missed(now, name);
    }

    int well(int well, int what) {
        if (noWell(well) || what < 0 || what > 3) {
            return NONE;
        }
        int depth = now.depths.get(well);
        return new int[] {depth, office.wells.get(well)[1], depth - dropsIn(now, well), now.wells.get(well).size()}[what];
    }

    private static int gaps(int[] file, int set) {
        return (set >> file[0]) % 2 + (set >> file[1]) % 2;
    }

    int file(int file, int what) {
        if (noFile(file) || what < 0 || what > 2) {
            return NONE;
        }
        return what < 2 ? office.files.get(file)[what] : gaps(office.files.get(file), drowned(now));
    }

    boolean law(int law) {
        if (law < NONE || law >= laws.size()) {
            return false;
        }
        holds = law;
        return true;
    }

    // ---- acts

    private int refuse(int sort, int answer) {
        refused[sort]++;
        return answer;
    }

    private void act() {
        acts.push(now.copy());
        if (acts.size() > 40) {
            acts.removeLast();
        }
    }

    private void free(int name) {
        for (List<Integer> well : now.wells) {
            well.remove((Integer) name);
        }
    }

    int dip(int name, int well) {
        if (noName(name) || noWell(well)) {
            return refuse(0, NONE);
        }
        if (wellOf(now, name) != NONE) {
            return refuse(2, NONE);
        }
        if (!canDip(now, name, well)) {
            return refuse(3, NONE);
        }
        act();
        now.wells.get(well).add(name);
        return well(well, 2);
    }

    int scratch(int well, int n) {
        if (noWell(well)) {
            return refuse(0, -2);
        }
        if (n < 1 || n > 9) {
            return refuse(1, -2);
        }
        if (now.wells.get(well).isEmpty()) {
            return refuse(2, -2);
        }
        act();
        int up = comesUp(now, well, n);
        free(up);
        return up;
    }

    int blot(int well) {
        if (noWell(well)) {
            return refuse(0, -2);
        }
        List<Integer> row = now.wells.get(well);
        if (row.isEmpty()) {
            return refuse(2, -2);
        }
        if (now.coins < 2) {
            return refuse(4, -2);
        }
        act();
        now.coins -= 2;
        return row.remove(row.size() - 1);
    }

    int water(int well) {
        if (noWell(well)) {
            return refuse(0, NONE);
        }
        int many = now.wells.get(well).size();
        if (many == 0) {
            return refuse(2, NONE);
        }
        if (now.coins < 5) {
            return refuse(4, NONE);
        }
        act();
        now.coins -= 5;
        now.wells.get(well).clear();
        return many;
    }

    int fill(int well) {
        if (noWell(well)) {
            return refuse(0, NONE);
        }
        if (now.depths.get(well) == 30) {
            return refuse(2, NONE);
        }
        if (now.coins < 1) {
            return refuse(4, NONE);
        }
        act();
        now.coins--;
        now.depths.set(well, now.depths.get(well) + 1);
        return now.depths.get(well);
    }

    int give(int n) {
        if (!stands) {
            return refuse(0, NONE);
        }
        if (n < 1 || n > 50 || n + now.coins > 999) {
            return refuse(1, NONE);
        }
        act();
        now.coins += n;
        return now.coins;
    }

    private void passYear() {
        int missed = missedInAll(now);
        now.unrest = Math.min(9999, now.unrest + missed);
        now.coins = Math.min(999, now.coins + office.names.size() - Integer.bitCount(drowned(now)));
        now.log.add(0, new int[] {drowned(now), missed});
        if (now.log.size() > 60) {
            now.log.remove(60);
        }
        now.year++;
    }

    int years(int n) {
        if (!stands) {
            return refuse(0, NONE);
        }
        if (n < 1 || n > 60) {
            return refuse(1, NONE);
        }
        if (now.year + n > 999) {
            return refuse(4, NONE);
        }
        for (int i = 0; i < n; i++) {
            act();
            passYear();
        }
        return now.year;
    }

    boolean flies(int v) {
        if (v < 0 || v > 9 || v == flyLine) {
            return false;
        }
        flyLine = v;
        return true;
    }

    int decades(int n, long seed) {
        if (!stands || n < 1 || n > 60 || now.year + n > 999) {
            return NONE;
        }
        long[] x = {seed};
        for (int i = 0; i < n; i++) {
            act();
            int name = draw(x, office.names.size());
            int well = draw(x, office.wells.size());
            if (canDip(now, name, well)) {
                now.wells.get(well).add(name);
            }
            if (draw(x, 10) < flyLine) {
                well = draw(x, office.wells.size());
                free(comesUp(now, well, draw(x, 9) + 1));
            }
            passYear();
        }
        return now.year;
    }

    private static int draw(long[] x, int j) {
        x[0] = x[0] * 6364136223846793005L + 1442695040888963407L;
        return (int) Long.remainderUnsigned(x[0] >>> 33, j);
    }

    int status(int what) {
        return what < 0 || what > 4 ? NONE : refused[what];
    }

    int undo() {
        if (acts.isEmpty()) {
            return NONE;
        }
        now = acts.pop();
        return acts.size();
    }

    int log(int i, int what) {
        return i < 0 || i >= now.log.size() || what < 0 || what > 1 ? NONE : now.log.get(i)[what];
    }

    // ---- questions

    int layer(int well, int i) {
        return noWell(well) || i < 0 || i >= now.wells.get(well).size() ? NONE : now.wells.get(well).get(i);
    }

    int reach(int name) {
        if (!noName(name) && wellOf(now, name) != NONE) {
            for (int n = 1; n <= 9; n++) {
                if (comesUp(now, wellOf(now, name), n) == name) {
                    return n;
                }
            }
        }
        return NONE;
    }

    int faction(int set, int what) {
        int names = office.names.size();
        if (what < 0 || what > 1 || set < 1 || set >= 1 << names || (set & drowned(now)) != 0) {
            return NONE;
        }
        int wells = office.wells.size();
        int rows = (int) Math.pow(wells, Integer.bitCount(set));
        int best = NONE;
        int fewest = 99;
        for (int row = 0; row < rows; row++) {
            String digits = Integer.toString(row, wells == 1 ? 2 : wells);
            while (digits.length() < Integer.bitCount(set)) {
                digits = "0" + digits;
            }
            State state = now.copy();
            boolean can = true;
            int at = 0;
            for (int name = 0; name < names && can; name++) {
                if ((set >> name & 1) == 1) {
                    int well = digits.charAt(at++) - '0';
                    can = canDip(state, name, well);
                    state.wells.get(well).add(name);
                }
            }
            int used = (int) digits.chars().distinct().count();
            if (can && used < fewest) {
                fewest = used;
                best = Integer.parseInt(digits);
            }
        }
        return best == NONE ? NONE : what == 0 ? best : fewest;
    }

    int silence(int set) {
        int names = office.names.size();
        if (!stands || set < 0 || set >= 1 << names) {
            return NONE;
        }
        int best = NONE;
        for (int all = 0; all < 1 << names; all++) {
            boolean silent = (all & (set | drowned(now))) == (set | drowned(now));
            for (int name = 0; name < names; name++) {
                silent &= (all >> name & 1) == 1 || (all >> knows(name) & 1) == 0;
            }
            if (silent && (best == NONE || Integer.bitCount(all) < Integer.bitCount(best))) {
                best = all;
            }
        }
        return best;
    }

    int seen(int file, int g) {
        if (noFile(file) || g < 0 || g > 2 || clues.size() == 10) {
            return NONE;
        }
        clues.add(new int[] {file, g});
        return clues.size();
    }

    private List<Integer> sets(int k) {
        List<Integer> sets = new ArrayList<>();
        for (int set = 0; set < 1 << office.names.size(); set++) {
            boolean so = Integer.bitCount(set) == k;
            for (int[] clue : clues) {
                so &= gaps(office.files.get(clue[0]), set) == clue[1];
            }
            if (so) {
                sets.add(set);
            }
        }
        return sets;
    }

    int gone(int k, int i) {
        if (!stands || k < 0 || k > 7) {
            return NONE;
        }
        List<Integer> sets = sets(k);
        return i == NONE ? sets.size() : i < 0 || i >= sets.size() ? NONE : sets.get(i);
    }

    int sure(int k) {
        if (!stands || k < 0 || k > 7 || sets(k).isEmpty()) {
            return NONE;
        }
        int bits = 0;
        for (int name = 0; name < office.names.size(); name++) {
            boolean inAll = true;
            for (int set : sets(k)) {
                inAll &= (set >> name & 1) == 1;
            }
            bits += inAll ? 1 << name : 0;
        }
        return bits;
    }

    int ask(int k) {
        if (!stands || k < 0 || k > 7 || sets(k).isEmpty() || office.files.isEmpty()) {
            return NONE;
        }
        List<Integer> most = new ArrayList<>();
        for (int[] file : office.files) {
            List<Integer> sorts = new ArrayList<>(List.of(0, 0, 0));
            for (int set : sets(k)) {
                sorts.set(gaps(file, set), sorts.get(gaps(file, set)) + 1);
            }
            most.add(Collections.max(sorts));
        }
        return most.indexOf(Collections.min(most));
    }

    private int gain(int one, int well, int own, int others) {
        int up = Math.max(own, others) == 0 ? NONE : comesUp(now, well, Math.max(own, others));
        return (up == knows(one) ? 5 : 0) - own;
    }

    int game(int one, int other, int well, int x, int y, int what) {
        if (noName(one) || noName(other) || one == other || noWell(well) || x < 0 || x > 9 || y < 0 || y > 9
                || what < 0 || what > 1) {
            return HIDDEN;
        }
        return what == 0 ? gain(one, well, x, y) : gain(other, well, y, x);
    }

    int rests(int one, int other, int well, int i) {
        if (noName(one) || noName(other) || one == other || noWell(well)) {
            return NONE;
        }
        List<Integer> rests = new ArrayList<>();
        for (int pair = 0; pair < 100; pair++) {
            boolean rest = true;
            for (int another = 0; another < 10; another++) {
                rest &= gain(one, well, another, pair % 10) <= gain(one, well, pair / 10, pair % 10);
                rest &= gain(other, well, another, pair / 10) <= gain(other, well, pair % 10, pair / 10);
            }
            if (rest) {
                rests.add(pair);
            }
        }
        return i == NONE ? rests.size() : i < 0 || i >= rests.size() ? NONE : rests.get(i);
    }

    int odds(int name, int k) {
        if (noName(name) || wellOf(now, name) == NONE || k < 0 || k > 4) {
            return NONE;
        }
        return odds(now, name, k, 1000000000);
    }

    private int odds(State state, int name, int k, int parts) {
        if (wellOf(state, name) == NONE) {
            return parts;
        }
        if (k == 0) {
            return 0;
        }
        int well = wellOf(state, name);
        int odds = 0;
        for (int deep = 3; deep <= 7; deep += 2) {
            State then = state.copy();
            then.wells.get(well).remove((Integer) comesUp(state, well, deep));
            odds += odds(then, name, k - 1, deep == 7 ? parts - parts / 3 - parts / 3 : parts / 3);
        }
        return odds;
    }

    int shares(int well, int c) {
        if (noWell(well) || c < 0 || c > 999) {
            return NONE;
        }
        int all = 0;
        for (int i = 0; i < now.wells.size(); i++) {
            all += dropsIn(now, i);
        }
        return all == 0 ? 0 : c * dropsIn(now, well) / all;
    }

    int most(int what) {
        if (!stands || what < 0 || what > 7) {
            return NONE;
        }
        List<Integer> worth = new ArrayList<>();
        int names = office.names.size();
        int wells = office.wells.size();
        switch (what) {
            case 0:
                for (int name = 0; name < names; name++) {
                    worth.add(-missedIfDipped(name));
                }
                return Collections.max(worth) == -99 ? NONE : worth.indexOf(Collections.max(worth));
            case 1:
                int net = 0;
                for (int name = 0; name < names; name++) {
                    net += wellOf(now, name) == NONE && wellOf(now, knows(name)) != NONE ? 1 : 0;
                }
                return net;
            case 2:
                for (int well = 0; well < wells; well++) {
                    State then = now.copy();
                    then.wells.get(well).clear();
                    worth.add(-missedInAll(then));
                }
                break;
            case 3:
                worth.addAll(now.depths);
                break;
            case 4:
                for (int well = 0; well < wells; well++) {
                    worth.add(dropsIn(now, well));
                }
                break;
            case 5:
                for (int[] name : office.names) {
                    worth.add(name[0]);
                }
                break;
            case 6:
                for (int name = 0; name < names; name++) {
                    worth.add(wellOf(now, name) == NONE ? freeWhoKnow(now, name) : NONE);
                }
                return Collections.max(worth) == NONE ? NONE : worth.indexOf(Collections.max(worth));
            default:
                return Integer.bitCount(drowned(now));
        }
        return worth.indexOf(Collections.max(worth));
    }

    /** 99: he can be dipped nowhere. */
    private int missedIfDipped(int name) {
        for (int well = 0; well < office.wells.size(); well++) {
            if (canDip(now, name, well)) {
                State then = now.copy();
                then.wells.get(well).add(name);
                return missed(then, name);
            }
        }
        return 99;
    }

    int known(int name) {
        if (noName(name)) {
            return NONE;
        }
        int bits = 0;
        for (int other = 0; other < office.names.size(); other++) {
            bits += knows(other) == name ? 1 << other : 0;
        }
        return bits;
    }

    int quiet(int n) {
        if (!stands || n < 1 || n > 9999) {
            return NONE;
        }
        int unrest = now.unrest;
        for (int years = 0; years <= 999; years++) {
            if (unrest >= n) {
                return years;
            }
            unrest += missedInAll(now);
        }
        return NONE;
    }

    int image() {
        if (!stands) {
            return NONE;
        }
        image = now.copy();
        return now.year;
    }

    int back() {
        if (image == null) {
            return NONE;
        }
        now = image.copy();
        acts.clear();
        return now.year;
    }

    int count(int what) {
        int[] counts = {office.names.size(), office.wells.size(), office.files.size(), laws.size(), tape.length(),
            holds, now.year, now.unrest, drowned(now), flyLine, clues.size(), now.log.size(), acts.size()};
        return what < 0 || what >= counts.length ? HIDDEN : counts[what];
    }
}
