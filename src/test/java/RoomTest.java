import java.lang.reflect.Array;
import java.lang.reflect.Field;
import java.lang.reflect.Modifier;
import java.util.ArrayList;
import java.util.Collections;
import java.util.IdentityHashMap;
import java.util.List;
import java.util.Set;

/** What one new object takes of the room of a run, and that its calls take nothing more. */
public final class RoomTest {
    private static final Checks C = new Checks();
    private static final int ROOM_OBJECTS = 600_000;
    private static final int ROOM_ELEMENTS = 7_300_000;
    // The dearest call is the constructor: a run that makes an object with each call must still have room.
    private static final int MOST_CALLS = 512;

    private final Set<Object> seen = Collections.newSetFromMap(new IdentityHashMap<>());
    private final List<Object> waiting = new ArrayList<>();
    private int elements = 0;

    private RoomTest(Object from) throws IllegalAccessException {
        look(from);
        while (!waiting.isEmpty()) {
            count(waiting.remove(waiting.size() - 1));
        }
    }

    public static void main(String[] args) throws IllegalAccessException {
        WideNames x = new WideNames();
        RoomTest fresh = new RoomTest(x);
        C.due("objects and arrays of one WideNames: " + fresh.seen.size(),
                fresh.seen.size() > 1 && fresh.seen.size() * MOST_CALLS <= ROOM_OBJECTS);
        C.due("fields and elements of one WideNames: " + fresh.elements,
                fresh.elements > 1000 && fresh.elements * MOST_CALLS <= ROOM_ELEMENTS);
        useAll(x);
        RoomTest used = new RoomTest(x);
        C.due("the same objects after every kind of call", used.seen.equals(fresh.seen));
        C.due("the same elements after every kind of call", used.elements == fresh.elements);
        C.end();
    }

    private void look(Object o) {
        if (o != null && seen.add(o)) {
            waiting.add(o);
        }
    }

    private void count(Object o) throws IllegalAccessException {
        if (o.getClass().isArray()) {
            elements += Array.getLength(o);
            if (o instanceof Object[] all) {
                for (Object each : all) {
                    look(each);
                }
            }
            return;
        }
        for (Field f : o.getClass().getDeclaredFields()) {
            if (!Modifier.isStatic(f.getModifiers())) {
                elements++;
                f.setAccessible(true);
                if (!f.getType().isPrimitive()) {
                    look(f.get(o));
                }
            }
        }
    }

    private static void useAll(WideNames x) {
        x.rank(769, 230);
        x.parts(900, 'a', 769, false);
        x.range(0, 769, 769, 1);
        x.status(700, 800, 0);
        x.add(900);
        x.map(1000);
        x.form(0);
        x.form(1);
        x.inForm();
        x.encode();
        x.decode();
        x.feed(0xCE842E61L, 4);
        x.alike();
        x.make(false);
        x.make(true);
        x.feed(255, 1);
        x.make(true);
        x.read();
        C.due("the calls were made", x.fault(0) == 10 && x.octet(0) == 'x' && x.point(0) == 900
                && x.about(900, 3) == 0);
    }
}
