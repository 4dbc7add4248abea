import java.lang.reflect.Array;
import java.lang.reflect.Field;
import java.lang.reflect.Modifier;
import java.util.Collections;
import java.util.IdentityHashMap;
import java.util.Set;

/**
 * What a run makes must fit into the one room of all its calls: the dearest new object, and the
 * dearest call, times more calls than a run has.
 */
public final class RoomTest {
    private static final long MOST_OBJECTS = 600_000;
    private static final long MOST_ELEMENTS = 7_300_000;
    private static final int CALLS = 512;

    private static int wrong = 0;

    private static final class Room {
        final Set<Object> seen = Collections.newSetFromMap(new IdentityHashMap<>());
        long objects;
        long elements;
    }

    private static void check(String what, boolean holds) {
        if (!holds) {
            wrong++;
            System.out.println("not so: " + what);
        }
    }

    public static void main(String[] args) throws IllegalAccessException {
        Room fresh = roomOf(new CoinDesk(200));
        check("a new object at every call fits: " + fresh.objects + " objects, " + fresh.elements + " elements",
                fresh.objects * (CALLS + 1) < MOST_OBJECTS && fresh.elements * (CALLS + 1) < MOST_ELEMENTS);
        CoinDesk busy = new CoinDesk(200);
        fill(busy);
        Room full = roomOf(busy);
        check("a full object fits: " + full.objects + " objects, " + full.elements + " elements",
                full.objects < MOST_OBJECTS / 10 && full.elements < MOST_ELEMENTS / 10);
        for (int i = 0; i < 20; i++) {
            undoAll(busy);
            fill(busy);
        }
        Room again = roomOf(busy);
        again.seen.removeAll(full.seen);
        check("coins that are gone are used again, but " + again.seen.size() + " objects are new",
                again.seen.isEmpty());
        System.out.println(wrong == 0 ? "all fits into the room" : wrong + " do not fit");
        if (wrong != 0) {
            System.exit(1);
        }
    }

    private static void fill(CoinDesk x) {
        x.begin();
        for (int i = 0; i < 400; i++) {
            x.key(0, 0, 0, 0, i);
            x.make(i, false);
            x.spend();
        }
        for (int i = 0; i < 200; i++) {
            x.key(0, 0, 0, 0, i);
            x.make(i, false);
        }
        x.end();
        check("600 coins", x.count(1) + x.count(2) == 600);
    }

    private static void undoAll(CoinDesk x) {
        check("1000 things undone", x.back() == 1000);
        check("no coins", x.count(1) + x.count(2) == 0);
    }

    private static Room roomOf(Object root) throws IllegalAccessException {
        Room room = new Room();
        add(root, room);
        return room;
    }

    private static void add(Object object, Room room) throws IllegalAccessException {
        if (object == null || !room.seen.add(object)) {
            return;
        }
        room.objects++;
        if (object.getClass().isArray()) {
            room.elements += Array.getLength(object);
            if (object instanceof Object[] parts) {
                for (Object part : parts) {
                    add(part, room);
                }
            }
            return;
        }
        for (Field field : object.getClass().getDeclaredFields()) {
            if (!Modifier.isStatic(field.getModifiers())) {
                room.elements++;
                field.setAccessible(true);
                if (!field.getType().isPrimitive()) {
                    add(field.get(object), room);
                }
            }
        }
    }
}
