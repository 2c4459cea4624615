import java.lang.management.ManagementFactory;
import java.lang.reflect.Array;
import java.lang.reflect.Field;
import java.lang.reflect.Modifier;
import java.util.ArrayList;
import java.util.IdentityHashMap;
import java.util.List;
import java.util.Map;

/** All calls of a run live in one room: an object is small, and its calls make no other objects. */
public final class RoomTest {
    private static final Check CHECK = new Check("RoomTest");
    private static final int CALLS = 512;
    /** What one room holds. */
    private static final long OBJECTS = 600000;
    private static final long ELEMENTS = 7300000;

    public static void main(String[] args) throws IllegalAccessException {
        sizeOfOne();
        for (int call = 0; call < 20; call++) {
            nothingIsMade(call);
        }
        CHECK.end();
    }

    private static void sizeOfOne() throws IllegalAccessException {
        Map<Object, Object> seen = new IdentityHashMap<>();
        List<Object> open = new ArrayList<>();
        open.add(new PairedLines());
        long size = 0;
        while (!open.isEmpty()) {
            Object o = open.remove(open.size() - 1);
            if (seen.put(o, o) == null) {
                size += o.getClass().isArray() ? inArray(o, open) : inObject(o, open);
            }
        }
        System.out.println("RoomTest: an object is " + seen.size() + " objects and arrays, " + size + " fields and elements");
        CHECK.holds("objects, if each call of a run made one anew", (long) seen.size() * CALLS < OBJECTS);
        CHECK.holds("fields and elements, likewise", size * CALLS < ELEMENTS);
    }

    private static long inArray(Object o, List<Object> open) {
        if (o instanceof Object[] parts) {
            for (Object p : parts) {
                open.add(p);
            }
        }
        return Array.getLength(o);
    }

    private static long inObject(Object o, List<Object> open) throws IllegalAccessException {
        long fields = 0;
        for (Field f : o.getClass().getDeclaredFields()) {
            if (!Modifier.isStatic(f.getModifiers())) {
                fields++;
                if (!f.getType().isPrimitive()) {
                    f.setAccessible(true);
                    open.add(f.get(o));
                }
            }
        }
        return fields;
    }

    /** Six POINTS joined with six, and four LINES more: as many pairings as forty LINES have, or nearly. */
    private static PairedLines dense() {
        PairedLines x = new PairedLines();
        x.points(12);
        for (int a = 0; a < 6; a++) {
            for (int b = 6; b < 12; b++) {
                x.line(0, 1, a, b);
            }
        }
        for (int a = 0; a < 8; a += 2) {
            x.line(0, 1, a, a + 1);
        }
        for (int s = 0; s < 4; s++) {
            x.sheet(s, s, 60);
        }
        x.rack(0, 0, 20);
        return x;
    }

    private static void nothingIsMade(int call) {
        // a first run, so that the host has loaded all it needs
        calls(call);
        com.sun.management.ThreadMXBean host = (com.sun.management.ThreadMXBean) ManagementFactory.getThreadMXBean();
        PairedLines x = dense();
        long id = Thread.currentThread().getId();
        long none = host.getThreadAllocatedBytes(id);
        none = host.getThreadAllocatedBytes(id) - none;
        long before = host.getThreadAllocatedBytes(id);
        for (int i = 0; i < CALLS - 50; i++) {
            ask(x, call, i);
        }
        long made = host.getThreadAllocatedBytes(id) - before - none;
        CHECK.holds("call " + call + " makes nothing, but made " + made, made < 1000);
    }

    private static void calls(int call) {
        PairedLines x = dense();
        for (int i = 0; i < CALLS - 50; i++) {
            ask(x, call, i);
        }
    }

    private static long ask(PairedLines x, int call, int i) {
        switch (call) {
            case 0:
                return x.listed(i % 7, i * 10);
            case 1:
                return x.listed(4, -1);
            case 2:
                return x.set(i % 40, i % 3) + x.counts(0, 3);
            case 3:
                return x.tide(i % 10) + x.changes(0, 1 + i % 6, -60, 60);
            case 4:
                return x.cutOff(i % 12, 0, 9, 5);
            case 5:
                return i % 2 == 0 ? x.other(3) : x.mean(0, 1, 0);
            case 6:
                return x.tree(0, 7 << i % 10) + x.share(0, 2, 1);
            case 7:
                return x.alone(i % 12, 0, 1, 1) + x.spread(i % 4096, 1, 0);
            case 8:
                return x.sheet(i % 4, i % 4, 60) + x.writes(i % 4, 0) + x.same(i % 4, 0);
            case 9:
                return x.cell(i % 4, i % 60, i) + x.parts(i % 4, i % 60, 3) + x.read(i % 4, i % 60, i % 5);
            case 10:
                return x.copy(i % 4, 0, i % 4, 3, 50);
            case 11:
                return x.rack(1, i % 6, 20) + x.lay(0, i % 20, i % 40) + x.of(0, i % 20);
            case 12:
                return x.image() + x.drop(0) + x.back();
            case 13:
                return x.lot(i, 5) + x.isPairing(i) + x.worth(i);
            case 14:
                return x.build(0, 0, 15);
            case 15:
                return x.meanAs(0, 1, i % 6) + x.likely(0, 9);
            case 16:
                return x.most(i) + x.near(i % 12, i) + x.between(i % 12, i % 5);
            case 17:
                return x.coef(i, i % 13) + x.sum(i, i % 10) + x.sign(i, i % 60, 1 + i % 6);
            case 18:
                return x.turns(i % 40, i % 6) + x.told(i % 40, i % 5) + x.count(i % 4) + x.node(0, 0);
            default:
                return x.points(12) + x.line(0, 1, 0, 1);
        }
    }
}
