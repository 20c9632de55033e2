import java.lang.management.ManagementFactory;
import java.lang.reflect.Array;
import java.lang.reflect.Field;
import java.lang.reflect.Modifier;
import java.util.IdentityHashMap;
import java.util.Map;

/**
 * What a run makes: a room of 600,000 objects and arrays and of 7.3 million fields and elements must do, even if
 * each of 512 calls made a new yard; the calls themselves make nothing.
 */
public final class RoomTest {
    private static final int CALLS = 512;

    public static void main(String[] args) {
        newObject();
        calls();
        Due.end();
    }

    private static void newObject() {
        Map<Object, Boolean> seen = new IdentityHashMap<>();
        long elements = count(new SlipwayYard(), seen);
        System.out.println("a new yard: " + seen.size() + " objects and arrays, " + elements + " fields and elements");
        Due.holds("objects of a new yard", seen.size() < 600_000 / CALLS);
        Due.holds("elements of a new yard", elements < 7_300_000 / CALLS);
    }

    private static long count(Object one, Map<Object, Boolean> seen) {
        if (one == null || seen.put(one, true) != null) {
            return 0;
        }
        long elements = 0;
        if (one.getClass().isArray()) {
            elements += Array.getLength(one);
            for (int k = 0; one instanceof Object[] && k < Array.getLength(one); k++) {
                elements += count(Array.get(one, k), seen);
            }
            return elements;
        }
        for (Field field : one.getClass().getDeclaredFields()) {
            if (!Modifier.isStatic(field.getModifiers())) {
                elements++;
                elements += field.getType().isPrimitive() ? 0 : count(valueOf(field, one), seen);
            }
        }
        return elements;
    }

    private static Object valueOf(Field field, Object one) {
        try {
            field.setAccessible(true);
            return field.get(one);
        } catch (IllegalAccessException e) {
            throw new IllegalStateException(e);
        }
    }

    private static SlipwayYard full() {
        SlipwayYard x = Due.net("a=5/3;b=3/1;c=2/0;d=4;e=9/6;a>b+2;a>c;b>d;c>d;c>e");
        for (int work = 0; work < 5; work++) {
            x.set(work, 2, work + 3);
            x.set(work, 3, work + 1);
            x.delay(work, work % 4, 9);
        }
        x.plate(10203);
        x.plate(30201);
        x.block(2, 2, 2, 2);
        x.put(0, 1, 1, 1);
        x.slip(9);
        x.stand(0, 2, 3, 4, 5);
        x.crane(9);
        x.crane(9);
        return x;
    }

    private static long ask(SlipwayYard x) {
        long sum = x.errorKind() + x.errorPlace() + x.read() + x.early(1) + x.late(1) + x.play(1) + x.length();
        for (int work = 0; work < 5; work++) {
            x.set(work, 2, work + 3);
            x.set(work, 3, work + 1);
            x.delay(work, work % 4, 9);
        }
        sum += x.waits(4, 0, 1, 3) + x.drop(5) + x.rows() + x.rowAt(0) + x.cost(10) + x.shortest() + x.peak();
        sum += x.leastPeak() + x.dayOf(1999) + x.openEdges() + (x.isClosed() ? 1 : 0) + x.weight();
        sum += x.middle(0, true) + x.trim(3) + x.firstStand(0, 9, 9, true) + x.nextLift(0, 0, 5, 5);
        sum += x.lateLength(15) + x.claim(1, false) + x.errors() + (long) x.meanPlay() + (long) x.putShare();
        return sum;
    }

    private static void calls() {
        com.sun.management.ThreadMXBean bean = (com.sun.management.ThreadMXBean) ManagementFactory.getThreadMXBean();
        SlipwayYard x = full();
        long due = ask(x);
        boolean isSame = true;
        for (int round = 0; round < 200; round++) {
            isSame &= ask(x) == due;
        }
        long thread = Thread.currentThread().getId();
        long before = bean.getThreadAllocatedBytes(thread);
        for (int round = 0; round < 200; round++) {
            isSame &= ask(x) == due;
        }
        long made = bean.getThreadAllocatedBytes(thread) - before;
        Due.holds("the same answers each time", isSame);
        // what the measuring itself makes is some hundred bytes
        Due.holds("200 rounds of calls make next to nothing, not " + made + " bytes", made < 20_000);
    }
}
