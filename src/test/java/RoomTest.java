import com.sun.management.ThreadMXBean;
import java.lang.management.ManagementFactory;
import java.lang.reflect.Array;
import java.lang.reflect.Field;
import java.lang.reflect.Modifier;
import java.util.Collections;
import java.util.IdentityHashMap;
import java.util.Set;

/** All calls of one run live in one room: what an object is made of is counted, and no call makes more. */
public final class RoomTest {
    private static final ThreadMXBean THREADS = (ThreadMXBean) ManagementFactory.getThreadMXBean();
    private static final long MANY_OBJECTS = 600_000, MANY_ELEMENTS = 7_300_000;
    private static long objects = 0;
    private static long elements = 0;
    private static long answers = 0;

    public static void main(String[] args) throws Exception {
        oneObject();
        callsMakeNothing();
        Check.finish();
    }

    /** A run may well make some hundreds of objects: each has to leave room for them. */
    private static void oneObject() throws Exception {
        count(new WireWalkers(), Collections.newSetFromMap(new IdentityHashMap<>()));
        System.out.println("an object of the class: " + objects + " objects, " + elements + " fields and elements");
        Check.holds("3,000 of them have room", objects * 3000 <= MANY_OBJECTS && elements * 3000 <= MANY_ELEMENTS);
    }

    private static void count(Object o, Set<Object> known) throws Exception {
        if (o == null || !known.add(o)) return;
        objects++;
        if (o.getClass().isArray()) {
            elements += Array.getLength(o);
            for (int i = 0; i < Array.getLength(o) && !o.getClass().getComponentType().isPrimitive(); i++) {
                count(Array.get(o, i), known);
            }
            return;
        }
        for (Field f : o.getClass().getDeclaredFields()) {
            if (Modifier.isStatic(f.getModifiers())) continue;
            elements++;
            f.setAccessible(true);
            if (!f.getType().isPrimitive()) count(f.get(o), known);
        }
    }

    private static void callsMakeNothing() {
        long[] made = new long[8];
        for (int round = 0; round < made.length; round++) {
            WireWalkers x = Check.wired("as6;ab3;bo9;cs0;eb9;xo2", "fflfrfwfflf", 12, 3, 12);
            long before = allocated();
            for (int again = 0; again < 6; again++) allCalls(x);
            made[round] = allocated() - before;
        }
        // The first round also makes what the machine needs to run the calls at all; 16 bytes are the least object.
        for (int round = 1; round < made.length; round++) {
            Check.holds("calls made " + made[round] + " bytes six times over", made[round] < 6 * 16);
        }
        Check.holds("all were asked", answers != 0);
    }

    private static long allocated() {
        return THREADS.getThreadAllocatedBytes(Thread.currentThread().getId());
    }

    /** Every call of the face once or more, refused ones too, with six walkers and events up to eight. */
    private static void allCalls(WireWalkers x) {
        long sum = x.type(1, 'w') + x.fault(0) + x.fault(1) + x.undo(1) + x.wipe(2) + x.walker(5, 0) + x.routine(3);
        sum += x.wire(1, 3) + x.sheet(0, 1, 60) + x.lay(0, 1, 1, 4) + x.read(0) + x.event(0, 3, 1) + x.count(3);
        sum += x.at(9, 1, 1) + x.lean(9, 1) + x.sees(9, 2) + x.sway(9) + x.ends(1, 2) + x.sum(2) + x.who(1) + x.bare();
        sum += x.start(1, 0) + x.hold(1, 0) + x.act(2, 0) + x.spare(-1) + x.seen(4, 0, 1) + x.never() + x.was(1, 0);
        sum += x.was(1, 1) + x.ask(1) + x.forget() + x.chance(5, 1, 0) + x.shows(7, 18, 0) + x.write(1, 0);
        sum += x.sheet(3, 1, 60) + x.get(0, 1, 0) + x.get(0, 2, 0) + x.copy(0, 0, 3, 0, 60) + x.lose(3) + x.lose(3);
        sum += x.digest();
        for (int k = 0; k < 8; k++) sum += x.back();
        sum += x.wipe(1);
        answers += sum;
    }
}
