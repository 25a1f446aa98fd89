import java.nio.charset.StandardCharsets;
import java.util.NoSuchElementException;
import java.util.Random;

/** Runs by chance, each call asked of the class and of the model; and many texts' faults. */
public final class ModelTest {
    private static final Bench BENCH = new Bench("ModelTest");
    private static final int RUNS = 600;
    private static final int CALLS = 500;
    private static final int TEXTS = 60000;

    private final Random random;
    private final TextMaker maker;
    private final DrownedNames x = new DrownedNames();
    private final Model model = new Model();
    private final int run;

    private ModelTest(int run) {
        this.run = run;
        random = new Random(run);
        maker = new TextMaker(random);
    }

    /** Other seeds can be told: the first run, how many runs. */
    public static void main(String[] args) {
        int first = args.length > 0 ? Integer.parseInt(args[0]) : 0;
        int runs = args.length > 1 ? Integer.parseInt(args[1]) : RUNS;
        faults(first);
        for (int run = first; run < first + runs; run++) {
            new ModelTest(run).go();
        }
        BENCH.finish();
    }

    private static void faults(int seed) {
        Random random = new Random(4711 + seed);
        TextMaker maker = new TextMaker(random);
        DrownedNames x = new DrownedNames();
        Model model = new Model();
        for (int i = 0; i < TEXTS; i++) {
            int sort = i % 2;
            String text = sort == 0 ? maker.ministry() : random.nextInt(4) == 0 ? maker.nestedLaw() : maker.law();
            text = random.nextBoolean() ? maker.spaced(text) : text;
            text = random.nextInt(3) > 0 ? maker.spoilt(text) : text;
            x.end(0);
            model.end(0);
            Bench.tell(x, text);
            tell(model, text);
            BENCH.due("fault(" + sort + ") of '" + text + "'", x.fault(sort), model.fault(sort));
        }
    }

    private static int tell(Model model, String text) {
        byte[] bytes = text.getBytes(StandardCharsets.ISO_8859_1);
        int answer = model.count(4);
        for (int i = 0; i < bytes.length; i += 20) {
            answer = model.feed(Bench.word(bytes, i), Bench.word(bytes, i + 4), Bench.word(bytes, i + 8),
                    Bench.word(bytes, i + 12), Bench.word(bytes, i + 16));
        }
        return answer;
    }

    private int below(int n) {
        return random.nextInt(n);
    }

    /** Mostly 0 .. most - 1, now and then beside it. */
    private int about(int most) {
        switch (below(60)) {
            case 0:
                return -1;
            case 1:
                return most;
            case 2:
                return -2;
            case 3:
                return random.nextInt();
            default:
                return below(Math.max(1, most));
        }
    }

    private void due(String call, long got, long want) {
        BENCH.due("run " + run + ": " + call, got, want);
    }

    private void due(String call, boolean got, boolean want) {
        BENCH.due("run " + run + ": " + call, got, want);
    }

    private void go() {
        if (below(20) > 0) {
            takeText(0);
        }
        for (int call = 0; call < CALLS; call++) {
            int sort = below(100);
            if (sort < 3) {
                tapeCall();
            } else if (sort < 45) {
                act();
            } else if (sort < 50) {
                keep();
            } else if (sort < 75) {
                lookUp();
            } else {
                question();
            }
        }
    }

    private void takeText(int sort) {
        String text = sort == 0 ? maker.ministry() : maker.law();
        text = below(3) == 0 ? maker.spaced(text) : text;
        text = below(10) == 0 ? maker.spoilt(text) : text;
        due("end(0)", x.end(0), model.end(0));
        due("feed '" + text + "'", Bench.tell(x, text), tell(model, text));
        due("text(" + sort + ") '" + text + "'", x.text(sort), model.text(sort));
        if (sort == 1 && below(3) > 0) {
            hold(model.count(3) - 1);
        }
    }

    private void hold(int law) {
        due("law(" + law + ")", x.law(law), model.law(law));
    }

    private void tapeCall() {
        int n = about(3);
        switch (below(10)) {
            case 0:
                takeText(0);
                break;
            case 1:
            case 2:
            case 3:
                takeText(1);
                break;
            case 4:
                int a = random.nextInt();
                int b = random.nextInt() & 0x7F00FF00;
                due("feed", x.feed(a, b, 0, a, b), model.feed(a, b, 0, a, b));
                break;
            case 5:
                n = about(model.count(4) + 2);
                due("end(" + n + ")", x.end(n), model.end(n));
                break;
            case 6:
                due("fault(" + n + ")", x.fault(n), model.fault(n));
                break;
            case 7:
                due("text(" + n + ")", x.text(n), model.text(n));
                break;
            default:
                hold(about(model.count(3) + 1) - 1);
                break;
        }
    }

    private void act() {
        int name = about(model.count(0));
        int well = about(model.count(1));
        int sort = below(34);
        int n = about(10);
        if (sort < 15) {
            due("dip(" + name + ", " + well + ")", x.dip(name, well), model.dip(name, well));
        } else if (sort < 20) {
            due("scratch(" + well + ", " + n + ")", x.scratch(well, n), model.scratch(well, n));
        } else if (sort < 22) {
            due("blot(" + well + ")", x.blot(well), model.blot(well));
        } else if (sort == 22) {
            due("water(" + well + ")", x.water(well), model.water(well));
        } else if (sort < 27) {
            due("fill(" + well + ")", x.fill(well), model.fill(well));
        } else if (sort == 27) {
            n = about(52);
            due("give(" + n + ")", x.give(n), model.give(n));
        } else if (sort < 32) {
            n = below(4) > 0 ? about(4) : about(62);
            due("years(" + n + ")", x.years(n), model.years(n));
        } else {
            n = below(2) == 0 ? about(5) : about(62);
            long seed = random.nextLong();
            due("decades(" + n + ", " + seed + ")", x.decades(n, seed), model.decades(n, seed));
        }
    }

    private void keep() {
        int n = about(10);
        int file = about(model.count(2));
        int g = about(3);
        switch (below(8)) {
            case 0:
                due("flies(" + n + ")", x.flies(n), model.flies(n));
                break;
            case 1:
                due("image()", x.image(), model.image());
                break;
            case 2:
                due("back()", x.back(), model.back());
                break;
            case 3:
                due("seen(" + file + ", " + g + ")", x.seen(file, g), model.seen(file, g));
                break;
            default:
                for (int i = below(10) == 0 ? 45 : below(4); i >= 0; i--) {
                    due("undo()", x.undo(), model.undo());
                }
                break;
        }
    }

    private void lookUp() {
        int name = about(model.count(0));
        int well = about(model.count(1));
        int file = about(model.count(2));
        int what = about(6);
        int i = about(62);
        switch (below(9)) {
            case 0:
                due("rule(" + what + ")", x.rule(what), model.rule(what));
                break;
            case 1:
            case 2:
                dueName(name, what);
                break;
            case 3:
                due("well(" + well + ", " + what + ")", x.well(well, what), model.well(well, what));
                break;
            case 4:
                due("file(" + file + ", " + what + ")", x.file(file, what), model.file(file, what));
                break;
            case 5:
                due("status(" + what + ")", x.status(what), model.status(what));
                break;
            case 6:
                what = about(2);
                due("log(" + i + ", " + what + ")", x.log(i, what), model.log(i, what));
                break;
            case 7:
                i = about(4);
                due("layer(" + well + ", " + i + ")", x.layer(well, i), model.layer(well, i));
                break;
            default:
                what = about(13);
                due("count(" + what + ")", x.count(what), model.count(what));
                break;
        }
    }

    private void dueName(int name, int what) {
        long got = nameOf(name, what, true);
        due("name(" + name + ", " + what + ")", got, nameOf(name, what, false));
    }

    private long nameOf(int name, int what, boolean ofClass) {
        try {
            return ofClass ? x.name(name, what) : model.name(name, what);
        } catch (NoSuchElementException e) {
            return Long.MIN_VALUE;
        }
    }

    private void question() {
        int name = about(model.count(0));
        int other = about(model.count(0));
        int well = about(model.count(1));
        int set = about(1 << model.count(0)) & (below(4) > 0 ? ~model.count(8) : -1);
        int k = about(8);
        int what = about(2);
        int i = below(3) == 0 ? -1 : about(6);
        int depth = about(10);
        switch (below(14)) {
            case 0:
                due("reach(" + name + ")", x.reach(name), model.reach(name));
                break;
            case 1:
                due("faction(" + set + ", " + what + ")", x.faction(set, what), model.faction(set, what));
                break;
            case 2:
                due("silence(" + set + ")", x.silence(set), model.silence(set));
                break;
            case 3:
                due("gone(" + k + ", " + i + ")", x.gone(k, i), model.gone(k, i));
                break;
            case 4:
                due("sure(" + k + ")", x.sure(k), model.sure(k));
                break;
            case 5:
                due("ask(" + k + ")", x.ask(k), model.ask(k));
                break;
            case 6:
                int y = about(10);
                due("game(" + name + ", " + other + ", " + well + ", " + depth + ", " + y + ", " + what + ")",
                        x.game(name, other, well, depth, y, what), model.game(name, other, well, depth, y, what));
                break;
            case 7:
                due("rests(" + name + ", " + other + ", " + well + ", " + i + ")",
                        x.rests(name, other, well, i), model.rests(name, other, well, i));
                break;
            case 8:
                k = about(5);
                due("odds(" + name + ", " + k + ")", x.odds(name, k), model.odds(name, k));
                break;
            case 9:
                k = about(1000);
                due("shares(" + well + ", " + k + ")", x.shares(well, k), model.shares(well, k));
                break;
            case 10:
                due("known(" + name + ")", x.known(name), model.known(name));
                break;
            case 11:
                k = below(2) == 0 ? about(10000) : about(200);
                due("quiet(" + k + ")", x.quiet(k), model.quiet(k));
                break;
            default:
                due("most(" + k + ")", x.most(k), model.most(k));
                break;
        }
    }
}
