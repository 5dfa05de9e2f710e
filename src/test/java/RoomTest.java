import java.lang.management.ManagementFactory;
import java.lang.reflect.Field;
import java.lang.reflect.Modifier;
import java.util.IdentityHashMap;
import java.util.Map;

/** The room that a run takes: what a new object holds, and that no call makes anything. */
public final class RoomTest {
    private static int objects = 0;
    private static int elements = 0;
    private static final Map<Object, Object> SEEN = new IdentityHashMap<>();

    public static void main(String[] args) throws Exception {
        count(new EmptyChairs());
        long made = madeByCalls();
        System.out.println("a new object holds " + objects + " objects and arrays, " + elements + " fields and elements; calls made " + made + " bytes");
        // 600,000 objects and 7.3 million elements are the room of a run: so a thousand objects fit into it.
        System.exit(objects < 600 && elements < 7300 && made < 1000 ? 0 : 1);
    }

    private static void count(Object o) throws Exception {
        if (o == null || SEEN.put(o, o) != null) {
            return;
        }
        objects++;
        if (o.getClass().isArray()) {
            int length = java.lang.reflect.Array.getLength(o);
            elements += length;
            for (int i = 0; i < length && !o.getClass().getComponentType().isPrimitive(); i++) {
                count(java.lang.reflect.Array.get(o, i));
            }
            return;
        }
        for (Field f : o.getClass().getDeclaredFields()) {
            if (!Modifier.isStatic(f.getModifiers())) {
                elements++;
                f.setAccessible(true);
                if (!f.getType().isPrimitive()) {
                    count(f.get(o));
                }
            }
        }
    }

    private static long madeByCalls() {
        Check c = Check.of(Check.HOUSE);
        c.takeSessions("loop 9;any;minute 5;when governs red;fall ann;end;end;", 5);
        c.x.tray(0, 2, 60);
        c.x.tray(1, 2, 60);
        java.lang.management.ThreadMXBean bean = ManagementFactory.getThreadMXBean();
        if (!(bean instanceof com.sun.management.ThreadMXBean)) {
            return 0;
        }
        com.sun.management.ThreadMXBean threads = (com.sun.management.ThreadMXBean) bean;
        long id = Thread.currentThread().getId();
        calls(c.x);
        threads.getThreadAllocatedBytes(id);
        long before = threads.getThreadAllocatedBytes(id);
        for (int i = 0; i < 200; i++) {
            calls(c.x);
        }
        return threads.getThreadAllocatedBytes(id) - before;
    }

    private static void calls(EmptyChairs x) {
        x.mark();
        x.tray(2, 1, 60);
        x.write(2, 0, 5);
        x.read(2, 0);
        x.pour(0, 0, 1, 0, 60);
        for (int i = 0; i < 16; i++) {
            x.many(i);
        }
        for (int i = 0; i < 6; i++) {
            x.member(i, 1);
            x.counts(i);
            x.walk(i, i % 3);
            x.yardsIn(i, 60);
            x.carry(i, 100 * i);
            x.hide(i, true);
            x.join(i, 1);
            x.die(5);
            x.fall(i, true);
            x.fall(i, false);
        }
        x.motion(0, 0);
        x.room(0, 0);
        x.powerOf(7);
        x.governs();
        x.margin(0);
        x.copyCounts(0);
        x.minute(7);
        x.year();
        x.rule(0, 40);
        x.side(0, 2, 1);
        x.governsIn(30);
        for (int p = 0; p < 3; p++) {
            x.power(p);
            x.bells(p);
            x.firstIn(p);
            x.reign(p, 600);
            x.swings(p);
            x.share(p);
            x.powerBy(p, 63);
            x.game(p, (p + 1) % 3, 3);
            x.moveOf(p, (p + 1) % 3, 3);
        }
        for (int m = 0; m < 2; m++) {
            x.carriedIn(m);
            x.fewest(m);
            x.fewestSet(m);
            x.cheapest(m);
            x.cheapestSet(m);
            x.farFor(m);
        }
        x.emptyIn();
        x.winning();
        x.wins(3);
        x.lean();
        x.carriedBy(1, 2, 1);
        x.tally(0);
        x.sure(0);
        x.ask(0);
        x.seek();
        x.seekAt(1);
        x.live(77);
        x.lived(0);
        x.mean(5, 20);
        x.back();
        x.feed(1, 2, 3, 4, 5);
        x.sessions(20);
        x.feed(0x66617220, 0x353b2020, 0x20202020, 0x20202020, 0x20202020);
        x.mark();
        x.assembly(20);
        x.back();
    }
}
