import java.lang.reflect.Array;
import java.lang.reflect.Field;
import java.lang.reflect.Modifier;
import java.util.IdentityHashMap;
import java.util.Map;

/**
 * All calls of one run live in one room: an object is small from its first call to its last, and what it holds is
 * made in constructors alone (LanguageTest looks for 'new' elsewhere).
 */
public final class RoomTest {
    private static final Bench BENCH = new Bench("RoomTest");
    // A thousandth of the room, so that a run could make hundreds of objects.
    private static final int OBJECTS_MOST = 600;
    private static final int CELLS_MOST = 7300;

    private final Map<Object, Boolean> found = new IdentityHashMap<>();
    private int cells;

    public static void main(String[] args) throws Exception {
        DrownedNames x = new DrownedNames();
        RoomTest first = roomOf(x);
        BENCH.due("few objects: " + first.found.size(), first.found.size() <= OBJECTS_MOST, true);
        BENCH.due("few fields and elements: " + first.cells, first.cells <= CELLS_MOST, true);
        use(x);
        RoomTest last = roomOf(x);
        BENCH.due("as many objects behind hundreds of calls", last.found.size(), first.found.size());
        BENCH.due("as many fields and elements", last.cells, first.cells);
        int others = 0;
        for (Object object : last.found.keySet()) {
            others += first.found.containsKey(object) ? 0 : 1;
        }
        BENCH.due("objects that are others than at first", others, 0);
        BENCH.finish();
    }

    private static void use(DrownedNames x) {
        for (int turn = 0; turn < 16; turn++) {
            Bench.found(x, "sc99;wd30;wd30r1;wd29;wd30;ns1f6;ns2;ns3f1o1;ns4f2;ns5;nf0;nf0o1;f;fa2b3;fa3b0");
            Bench.hold(x, "y:!(a>2|k=0)&s<9?s*k;y:w+a");
            x.decades(60, turn);
            x.image();
            x.faction(x.count(8) ^ 127, 0);
            x.silence(5);
            x.seen(0, 1);
            x.gone(3, 2);
            x.sure(3);
            x.ask(3);
            x.game(0, 1, 0, 3, 4, 0);
            x.rests(0, 1, 0, Bench.NONE);
            x.most(0);
            x.most(2);
            x.quiet(5000);
            x.years(60);
            x.undo();
            x.back();
            for (int name = 0; name < 7; name++) {
                x.odds(name, 4);
            }
        }
    }

    private static RoomTest roomOf(DrownedNames x) throws Exception {
        RoomTest room = new RoomTest();
        room.walk(x);
        return room;
    }

    private void walk(Object object) throws Exception {
        if (object == null || found.containsKey(object)) {
            return;
        }
        found.put(object, true);
        if (object.getClass().isArray()) {
            walkArray(object);
            return;
        }
        for (Field field : object.getClass().getDeclaredFields()) {
            if (!Modifier.isStatic(field.getModifiers())) {
                cells++;
                field.setAccessible(true);
                if (!field.getType().isPrimitive()) {
                    walk(field.get(object));
                }
            }
        }
    }

    private void walkArray(Object array) throws Exception {
        cells += Array.getLength(array);
        if (!array.getClass().getComponentType().isPrimitive()) {
            for (Object part : (Object[]) array) {
                walk(part);
            }
        }
    }
}
