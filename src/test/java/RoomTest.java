import java.lang.management.ManagementFactory;
import java.lang.reflect.Array;
import java.lang.reflect.Field;
import java.lang.reflect.Modifier;
import java.util.ArrayDeque;
import java.util.Collections;
import java.util.Deque;
import java.util.IdentityHashMap;
import java.util.Set;

/** The room that a cellar takes: so little that 512 constructors fit into one room, and no call makes an object. */
public final class RoomTest {
    private static final int MOST_OBJECTS = 600_000;
    private static final int MOST_FIELDS = 7_300_000;
    private static final int CALLS = 512;
    /** No object is smaller on this machine. */
    private static final int BYTES = 16;

    private int objects = 0;
    private int fields = 0;

    public static void main(String[] args) throws IllegalAccessException {
        Due due = new Due("room");
        VineyardBlends x = new VineyardBlends();
        RoomTest fresh = new RoomTest();
        fresh.measure(x);
        System.out.println("a cellar: " + fresh.objects + " objects and arrays, " + fresh.fields + " fields and elements");
        due.is("objects of 512 cellars fit", (long) CALLS * fresh.objects <= MOST_OBJECTS ? 1 : 0, 1);
        due.is("fields and elements of 512 cellars fit", (long) CALLS * fresh.fields <= MOST_FIELDS ? 1 : 0, 1);
        due.is("a cellar has objects", fresh.objects > 1 ? 1 : 0, 1);
        use(x);
        RoomTest used = new RoomTest();
        used.measure(x);
        due.is("objects of a cellar behind its calls", used.objects, fresh.objects);
        due.is("fields and elements of a cellar behind its calls", used.fields, fresh.fields);
        long made = bytesOfCalls();
        due.is("fewer bytes than one object a call, and not " + made, made < CALLS * BYTES ? 1 : 0, 1);
        due.end();
    }

    /** Counts all that can be reached from an object: with its fields, or with its elements. */
    private void measure(Object start) throws IllegalAccessException {
        Set<Object> seen = Collections.newSetFromMap(new IdentityHashMap<>());
        Deque<Object> open = new ArrayDeque<>();
        seen.add(start);
        open.add(start);
        while (!open.isEmpty()) {
            Object each = open.remove();
            objects++;
            if (each.getClass().isArray()) {
                reachElements(each, seen, open);
            } else {
                reachFields(each, seen, open);
            }
        }
    }

    private void reachElements(Object array, Set<Object> seen, Deque<Object> open) {
        fields += Array.getLength(array);
        if (array instanceof Object[] elements) {
            for (Object element : elements) {
                reach(element, seen, open);
            }
        }
    }

    private void reachFields(Object object, Set<Object> seen, Deque<Object> open) throws IllegalAccessException {
        for (Field field : object.getClass().getDeclaredFields()) {
            if (Modifier.isStatic(field.getModifiers())) {
                continue;
            }
            fields++;
            if (!field.getType().isPrimitive()) {
                field.setAccessible(true);
                reach(field.get(object), seen, open);
            }
        }
    }

    private static void reach(Object object, Set<Object> seen, Deque<Object> open) {
        if (object != null && seen.add(object)) {
            open.add(object);
        }
    }

    private static long bytesOfCalls() {
        if (!(ManagementFactory.getThreadMXBean() instanceof com.sun.management.ThreadMXBean threads)
                || !threads.isThreadAllocatedMemorySupported()) {
            return 0;
        }
        VineyardBlends warm = new VineyardBlends();
        VineyardBlends x = new VineyardBlends();
        long thread = Thread.currentThread().getId();
        threads.getThreadAllocatedBytes(thread);
        use(warm);
        long before = threads.getThreadAllocatedBytes(thread);
        use(x);
        return threads.getThreadAllocatedBytes(thread) - before;
    }

    /** Some 500 calls, each kind of them several times. */
    private static void use(VineyardBlends x) {
        for (int round = 0; round < 6; round++) {
            for (int lot = 0; lot < 4; lot++) {
                int number = x.bring(500 + lot, lot, 2000 + round, lot, 1000, 50);
                x.recipe(number, 1 + lot);
                x.sweeten(number, lot);
                x.score(number, lot, 100 + round);
            }
            type(x, "acid most 2");
            x.type('0' + round);
            x.type(';');
            x.fault(0);
            x.fault(1);
            x.read();
            x.clearText();
            ask(x, x.count(6) - 1);
            x.blend(100, round % 2);
            x.months(3);
            x.bottle(x.count(6) - 1, 5, 75);
            x.set(1, 30 + round);
            x.move(x.count(6) - 2, 1);
            x.rule(0, 2);
            x.dropRule(0);
            x.undo();
        }
    }

    private static void ask(VineyardBlends x, int lot) {
        x.ifBlend(100, 5);
        x.mostLitres();
        x.partsFor(lot, lot - 1, 0, 900);
        x.lot(lot, 6);
        x.grain(lot, 0, 3);
        x.share(lot, 0, 1);
        x.bits(lot);
        x.panel(lot, 3);
        x.ranked(0);
        x.account(4);
    }

    private static void type(VineyardBlends x, String text) {
        for (int i = 0; i < text.length(); i++) {
            x.type(text.charAt(i));
        }
    }
}
