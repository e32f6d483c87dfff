import java.lang.reflect.Array;
import java.lang.reflect.Field;
import java.lang.reflect.Modifier;
import java.util.IdentityHashMap;

/**
 * The room of a run: some 600,000 objects and arrays, 7.3 million fields and elements in all. What one ReviewTable
 * holds is counted; a run whose 512 calls each made one would still fit, and no other call makes it hold more.
 */
public final class RoomTest {
    private static final int CALLS = 512;
    private static final int OBJECTS = 600_000;
    private static final int FIELDS = 7_300_000;

    /** A StringBuilder or a text counts as itself and its signs. */
    private static final int OBJECTS_OF_A_TEXT = 2;

    private final IdentityHashMap<Object, Boolean> seen = new IdentityHashMap<>();
    private int objects = 0;
    private int fields = 0;

    private static RoomTest roomOf(Object start) throws IllegalAccessException {
        RoomTest room = new RoomTest();
        room.count(start);
        return room;
    }

    private void count(Object o) throws IllegalAccessException {
        if (o == null || o instanceof Enum || seen.put(o, true) != null) {
            return;
        }
        if (o instanceof CharSequence) {
            objects += OBJECTS_OF_A_TEXT;
            fields += ((CharSequence) o).length();
            return;
        }
        objects++;
        if (o.getClass().isArray()) {
            countElements(o);
            return;
        }
        for (Field f : o.getClass().getDeclaredFields()) {
            if (!Modifier.isStatic(f.getModifiers())) {
                f.setAccessible(true);
                fields++;
                if (!f.getType().isPrimitive()) {
                    count(f.get(o));
                }
            }
        }
    }

    private void countElements(Object array) throws IllegalAccessException {
        fields += Array.getLength(array);
        if (!array.getClass().getComponentType().isPrimitive()) {
            for (int i = 0; i < Array.getLength(array); i++) {
                count(Array.get(array, i));
            }
        }
    }

    private static void aRunOfConstructorsFits() throws IllegalAccessException {
        RoomTest room = roomOf(new ReviewTable());
        Check.due("512 times " + room.objects + " objects fit", CALLS * room.objects <= OBJECTS, true);
        Check.due("512 times " + room.fields + " fields fit", CALLS * room.fields <= FIELDS, true);
    }

    /** Only the names of workers, of the tables of before too, and the signs of the output come to what is held. */
    private static void callsHoldNothingMore() throws IllegalAccessException {
        ReviewTable x = new ReviewTable();
        RoomTest before = roomOf(x);
        Check.load(x, Check.SIX + "rows 24 size 9;bar a b;");
        for (int i = 0; i < 60; i++) {
            int row = i % 24;
            x.keep(i % 2);
            if (x.refusal(2, row) == 0 && x.refusal(3, row) == 0) {
                Check.work(x, row, 2, i, 3, i + 3);
            }
            x.pass(1 + i % 9);
            x.setTable(i % 3, 1 + i % 19);
            x.mostTakings();
            x.writeRows();
            x.writeWorkers();
            if (i % 5 == 0) {
                x.restore(i % 2);
                x.undo();
            }
        }
        RoomTest after = roomOf(x);
        int tables = 10;
        int names = tables * 6 * OBJECTS_OF_A_TEXT;
        Check.due("objects before " + before.objects + ", after " + after.objects, after.objects - before.objects <= names, true);
        Check.due("fields before " + before.fields + ", after " + after.fields, after.fields - before.fields <= 1000, true);
    }

    public static void main(String[] args) throws IllegalAccessException {
        aRunOfConstructorsFits();
        callsHoldNothingMore();
        Check.finish("RoomTest");
    }
}
