/** What can be seen of an object, as a text, so that two looks at it can be compared. */
final class Sight {
    private Sight() {
    }

    /** What an IMAGE keeps: who lies where, DEPTHS, COINS, UNREST, the YEAR, the LOG. */
    static String ofState(DrownedNames x) {
        StringBuilder text = new StringBuilder("coins ").append(x.rule(1));
        text.append(" year ").append(x.count(6)).append(" unrest ").append(x.count(7)).append(" who ").append(x.count(8));
        for (int well = 0; well < x.count(1); well++) {
            text.append(" | ").append(x.well(well, 0)).append(':');
            for (int i = 0; i < x.well(well, 3); i++) {
                text.append(' ').append(x.layer(well, i));
            }
        }
        text.append(" log");
        for (int i = 0; i < x.count(11); i++) {
            text.append(' ').append(x.log(i, 0)).append('/').append(x.log(i, 1));
        }
        return text.toString();
    }

    /** What no ACT changes: the TEXTS, the TAPE, which LAW holds, FLIES, what was SEEN. */
    static String ofRest(DrownedNames x) {
        StringBuilder text = new StringBuilder("counts");
        for (int what : new int[] {0, 1, 2, 3, 4, 5, 9, 10}) {
            text.append(' ').append(x.count(what));
        }
        text.append(" faults ").append(x.fault(0)).append(' ').append(x.fault(1)).append(" rule ").append(x.rule(0));
        for (int name = 0; name < x.count(0); name++) {
            text.append(" | ").append(x.name(name, 0)).append(' ').append(x.name(name, 1)).append(' ').append(x.name(name, 2));
        }
        for (int well = 0; well < x.count(1); well++) {
            text.append(" | ").append(x.well(well, 1));
        }
        for (int file = 0; file < x.count(2); file++) {
            text.append(" | ").append(x.file(file, 0)).append(' ').append(x.file(file, 1));
        }
        text.append(" gone");
        for (int k = 0; k <= 7; k++) {
            text.append(' ').append(x.gone(k, Bench.NONE));
        }
        return text.toString();
    }

    /** All but STATUS. */
    static String ofAll(DrownedNames x) {
        return ofState(x) + " acts " + x.count(12) + " " + ofRest(x);
    }

    static String ofStatus(DrownedNames x) {
        StringBuilder text = new StringBuilder("status");
        for (int what = 0; what < 5; what++) {
            text.append(' ').append(x.status(what));
        }
        return text.toString();
    }
}
