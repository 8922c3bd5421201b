import java.lang.management.ManagementFactory;
import java.lang.reflect.Array;
import java.lang.reflect.Field;
import java.lang.reflect.Modifier;
import java.util.IdentityHashMap;
import java.util.Map;

/** All calls of a run live in one room: what an object has from the start is small, and no call makes more. */
public final class RoomTest {
    private static final Check check = new Check();

    public static void main(String[] args) throws Exception {
        Map<Object, Boolean> known = new IdentityHashMap<>();
        long elements = count(new CowLies(), known);
        check.holds("objects of a new one: " + known.size() + ", at most 100", known.size() <= 100);
        check.holds("fields and elements of a new one: " + elements + ", at most 5000", elements <= 5000);
        callsMakeNothing();
        check.end();
    }

    private static long count(Object o, Map<Object, Boolean> known) throws Exception {
        if (o == null || known.put(o, true) != null) return 0;
        if (o.getClass().isArray()) return Array.getLength(o);
        long sum = 0;
        for (Field field : o.getClass().getDeclaredFields()) {
            if (Modifier.isStatic(field.getModifiers())) continue;
            sum++;
            field.setAccessible(true);
            if (!field.getType().isPrimitive()) sum += count(field.get(o), known);
        }
        return sum;
    }

    private static void callsMakeNothing() {
        if (!(ManagementFactory.getThreadMXBean() instanceof com.sun.management.ThreadMXBean threads)) return;
        if (!threads.isThreadAllocatedMemorySupported()) return;
        CowLies x = Check.of("meadow 8 5;cow 4 2 8;tithe 0 0 99;grass 7 4 9;thing flies 1 1;");
        // the texts' own signs are made ahead of the count
        long[] text = eights("meadow 8 5;cow 4 2 8;tithe 0 0 99;grass 7 4 9;thing flies 1 1;     ");
        allCalls(x, text);
        long least = Long.MAX_VALUE;
        for (int i = 0; i < 3; i++) {
            long before = threads.getThreadAllocatedBytes(Thread.currentThread().getId());
            allCalls(x, text);
            least = Math.min(least, threads.getThreadAllocatedBytes(Thread.currentThread().getId()) - before);
        }
        long none = Long.MAX_VALUE;
        for (int i = 0; i < 3; i++) {
            long before = threads.getThreadAllocatedBytes(Thread.currentThread().getId());
            none = Math.min(none, threads.getThreadAllocatedBytes(Thread.currentThread().getId()) - before);
        }
        check.due("bytes that the calls made", least, none);
    }

    private static long[] eights(String text) {
        long[] eights = new long[text.length() / 8];
        for (int i = 0; i < eights.length * 8; i++) eights[i / 8] = eights[i / 8] << 8 | text.charAt(i);
        return eights;
    }

    private static long allCalls(CowLies x, long[] text) {
        for (long eight : text) x.feed(8, eight);
        long sum = x.meadow() + x.fault() + x.told(2) + x.cell(1, 1, 4) + x.tithes(0, 3, 3);
        sum += x.day(99) + x.law(1) + x.sow(3, 3, 9) + x.lead(2, 2) + x.lick(5, 4);
        sum += x.odds(3, 3, 12) + x.mean(1) + x.clover(0, 9, 1) + x.rests(-1, 9) + x.worth(0, 1, 1);
        sum += x.fairest(1) + x.watch(2) + x.see(2, 2, 0) + x.lay(-1, 3) + x.write(1, 1, 7) + x.judge() + x.tear();
        sum += x.seed(7) + x.keep(0) + x.goBack(0) + x.keep(1) + x.goBack(1);
        return sum;
    }
}
