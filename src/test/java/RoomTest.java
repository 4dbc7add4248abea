import java.lang.reflect.Array;
import java.lang.reflect.Field;
import java.lang.reflect.Modifier;
import java.util.Collections;
import java.util.IdentityHashMap;
import java.util.Set;

/**
 * What a run makes must fit into the one room of all its calls: the dearest new object, and the
 * dearest call, times more calls than a run has.
 */
public final class RoomTest {
    private static final long MOST_OBJECTS = 600_000;
    private static final long MOST_ELEMENTS = 7_300_000;
    private static final int CALLS = 512;
    private static final int USED_AGAIN = 10;

    private static int wrong = 0;

    private static final class Room {
        final Set<Object> seen = Collections.newSetFromMap(new IdentityHashMap<>());
        long objects;
        long elements;
    }

    private static void check(String what, boolean holds) {
        if (!holds) {
            wrong++;
            System.out.println("not so: " + what);
        }
    }

    public static void main(String[] args) throws IllegalAccessException {
        newObjectsFit();
        dearestCallsFit();
        goneCoinsAreUsedAgain();
        System.out.println(wrong == 0 ? "all fits into the room" : wrong + " do not fit");
        if (wrong != 0) {
            System.exit(1);
        }
    }

    private static void newObjectsFit() throws IllegalAccessException {
        Room fresh = roomOf(new CoinDesk(200));
        check("a new object at every call fits: " + fresh.objects + " objects, " + fresh.elements + " elements",
                fresh.objects * (CALLS + 1) < MOST_OBJECTS && fresh.elements * (CALLS + 1) < MOST_ELEMENTS);
    }

    /** As many coins as 512 calls can make: nearly every second call makes one. */
    private static void dearestCallsFit() throws IllegalAccessException {
        CoinDesk x = new CoinDesk(200);
        x.begin();
        for (int call = 1; call + 2 < CALLS; call += 2) {
            x.make(call, false);
            x.spend();
        }
        check("a coin for nearly every second call", x.count(2) == CALLS / 2 - 1);
        Room full = roomOf(x);
        check("a full object fits: " + full.objects + " objects, " + full.elements + " elements",
                full.objects < MOST_OBJECTS / 10 && full.elements < MOST_ELEMENTS / 10);
    }

    /** Some 310 calls in all, as an object is used for no more than 512. */
    private static void goneCoinsAreUsedAgain() throws IllegalAccessException {
        CoinDesk x = new CoinDesk(USED_AGAIN);
        fill(x);
        Room full = roomOf(x);
        for (int i = 0; i < 3; i++) {
            check("all is taken back", x.back() == 5 * USED_AGAIN);
            fill(x);
        }
        check("no coin is new after back", madeSince(full, x) == 0);
        check("the spent ones are forgotten", x.forget() == 2 * USED_AGAIN);
        x.begin();
        for (int i = 0; i < 2 * USED_AGAIN; i++) {
            x.spend();
            x.make(i, false);
        }
        check("all coins that there can be", x.count(1) + x.count(2) == 3 * USED_AGAIN);
        check("no coin is new after forget", madeSince(full, x) == 0);
    }

    private static int madeSince(Room before, CoinDesk x) throws IllegalAccessException {
        Room now = roomOf(x);
        now.seen.removeAll(before.seen);
        return now.seen.size();
    }

    /** As many coins as there can be, unspent ones and spent ones. */
    private static void fill(CoinDesk x) {
        x.begin();
        for (int i = 0; i < 2 * USED_AGAIN; i++) {
            x.make(i, false);
            x.spend();
        }
        for (int i = 0; i < USED_AGAIN; i++) {
            x.key(0, 0, 0, 0, i);
            x.make(i, false);
        }
        x.end();
        check("all coins that there can be", x.count(1) + x.count(2) == 3 * USED_AGAIN);
    }

    private static Room roomOf(Object root) throws IllegalAccessException {
        Room room = new Room();
        add(root, room);
        return room;
    }

    private static void add(Object object, Room room) throws IllegalAccessException {
        if (object == null || !room.seen.add(object)) {
            return;
        }
        room.objects++;
        if (object.getClass().isArray()) {
            room.elements += Array.getLength(object);
            if (object instanceof Object[] parts) {
                for (Object part : parts) {
                    add(part, room);
                }
            }
            return;
        }
        for (Field field : object.getClass().getDeclaredFields()) {
            if (!Modifier.isStatic(field.getModifiers())) {
                room.elements++;
                field.setAccessible(true);
                if (!field.getType().isPrimitive()) {
                    add(field.get(object), room);
                }
            }
        }
    }
}
