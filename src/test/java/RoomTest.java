import com.sun.management.ThreadMXBean;
import java.lang.management.ManagementFactory;
import java.lang.reflect.Array;
import java.lang.reflect.Field;
import java.lang.reflect.Modifier;
import java.util.ArrayDeque;
import java.util.ArrayList;
import java.util.Collections;
import java.util.Deque;
import java.util.IdentityHashMap;
import java.util.List;
import java.util.Random;
import java.util.Set;
import java.util.function.IntSupplier;

/** What a run makes, counted as a new object and 512 times the most that any one call makes. */
public final class RoomTest {
    private static final int CALLS = 512;
    // A fiftieth of the room that all calls of one run live in.
    private static final long MOST_OBJECTS = 600_000 / 50;
    private static final long MOST_ELEMENTS = 7_300_000 / 50;
    // No object is smaller than its head, no field or element smaller than a byte.
    private static final long SMALLEST_OBJECT = 8;

    private static final ThreadMXBean BEAN = (ThreadMXBean) ManagementFactory.getThreadMXBean();

    private final List<IntSupplier> calls = new ArrayList<>();
    private final List<String> names = new ArrayList<>();
    private final SecretEnds x = new SecretEnds();
    private long dearest = 0;

    private RoomTest() {
    }

    public static void main(String[] args) {
        meterWorks();
        long most = 0;
        // What the first round meets is the machine's own: classes that are loaded by it.
        for (int round = 0; round < 2; round++) {
            most = 0;
            for (int seed = 0; seed < 60; seed++) {
                most = Math.max(most, dearestCall(seed, round == 1));
            }
        }
        RoomTest fresh = new RoomTest();
        Set<Object> objects = reachable(fresh.x);
        long elements = 0;
        for (Object one : objects) {
            elements += size(one);
        }
        long bytes = bytesOfNew();
        System.out.println("a new object makes " + objects.size() + " objects and arrays with " + elements
            + " fields and elements, " + bytes + " bytes; the dearest call makes " + most + " bytes");
        Check.due("nothing that a new object makes is thrown away (" + bytes + ")", bytes <= 8 * elements, true);
        long allObjects = objects.size() + CALLS * (most / SMALLEST_OBJECT);
        long allElements = elements + CALLS * most;
        Check.due("a run makes few objects (" + allObjects + ")", allObjects <= MOST_OBJECTS, true);
        Check.due("a run makes few fields and elements (" + allElements + ")", allElements <= MOST_ELEMENTS, true);
        Check.finish();
    }

    /** A meter that always told 0 would let everything pass. */
    private static void meterWorks() {
        Object[] kept = new Object[1];
        IntSupplier one = () -> {
            kept[0] = new int[1000];
            return 0;
        };
        measure(one);
        long made = measure(one);
        Check.due("1000 elements are seen (" + made + ")", made >= 4000 && made <= 4100, true);
        IntSupplier none = () -> 0;
        measure(none);
        Check.due("nothing is seen where nothing is made", measure(none), 0);
    }

    private static long measure(IntSupplier call) {
        long before = BEAN.getCurrentThreadAllocatedBytes();
        call.getAsInt();
        return BEAN.getCurrentThreadAllocatedBytes() - before;
    }

    private static long bytesOfNew() {
        SecretEnds[] kept = new SecretEnds[1];
        IntSupplier make = () -> {
            kept[0] = new SecretEnds();
            return 0;
        };
        measure(make);
        return measure(make);
    }

    private static Set<Object> reachable(Object first) {
        Set<Object> seen = Collections.newSetFromMap(new IdentityHashMap<>());
        Deque<Object> open = new ArrayDeque<>();
        open.add(first);
        seen.add(first);
        while (!open.isEmpty()) {
            for (Object next : partsOf(open.remove())) {
                if (next != null && seen.add(next)) {
                    open.add(next);
                }
            }
        }
        return seen;
    }

    private static List<Object> partsOf(Object one) {
        List<Object> parts = new ArrayList<>();
        if (one instanceof Object[]) {
            Collections.addAll(parts, (Object[]) one);
        } else if (!one.getClass().isArray()) {
            for (Field f : fieldsOf(one)) {
                if (!f.getType().isPrimitive()) {
                    parts.add(valueOf(f, one));
                }
            }
        }
        return parts;
    }

    private static long size(Object one) {
        return one.getClass().isArray() ? Array.getLength(one) : fieldsOf(one).size();
    }

    private static List<Field> fieldsOf(Object one) {
        List<Field> fields = new ArrayList<>();
        for (Field f : one.getClass().getDeclaredFields()) {
            if (!Modifier.isStatic(f.getModifiers())) {
                fields.add(f);
            }
        }
        return fields;
    }

    private static Object valueOf(Field f, Object one) {
        f.setAccessible(true);
        try {
            return f.get(one);
        } catch (IllegalAccessException e) {
            throw new IllegalStateException(e);
        }
    }

    /** Of 512 calls on one object: the four of make, two connections, and calls at random behind them. */
    private static long dearestCall(int seed, boolean judged) {
        RoomTest run = new RoomTest();
        run.addConnections();
        run.addTalk();
        int planned = run.calls.size();
        run.addRandomCalls(new Random(seed), CALLS - planned);
        for (int i = 0; i < run.calls.size(); i++) {
            long made = measure(run.calls.get(i));
            run.dearest = Math.max(run.dearest, made);
            if (judged) {
                Check.due("bytes made by call " + i + ", " + run.names.get(i), made, 0);
            }
            if (i == planned - 1) {
                Check.due("the run connects END 0", run.x.state(0, 0), 6);
                Check.due("the run connects END 3", run.x.state(3, 0), 6);
            }
        }
        return run.dearest;
    }

    private void add(String name, IntSupplier call) {
        names.add(name);
        calls.add(call);
    }

    private void addConnections() {
        for (int end = 0; end < 4; end++) {
            boolean server = end % 2 == 1;
            add("make", () -> x.make(server));
        }
        add("a fifth make", () -> x.make(true));
        for (int end = 0; end < 4; end++) {
            addTold(end);
        }
        for (int pair = 0; pair < 4; pair += 2) {
            addCarry(pair, pair + 1);
            addCarry(pair + 1, pair);
            addCarry(pair + 1, pair);
            addCarry(pair + 1, pair);
            addCarry(pair, pair + 1);
        }
    }

    private void addTold(int end) {
        int[] lengths = {20, 4, 32};
        for (int i = 0; i < 3; i++) {
            int what = i;
            addFeed();
            addFeed();
            add("end", () -> x.end(lengths[what]));
            add("tell", () -> x.tell(end, what) ? 1 : 0);
        }
        add("start", () -> x.start(end) ? 1 : 0);
    }

    /** What is said has 400 bytes, the longest there are. */
    private void addTalk() {
        for (int i = 0; i < 20; i++) {
            addFeed();
        }
        add("say", () -> x.say(0));
        addCarry(0, 1);
        for (int ask = 0; ask < 2; ask++) {
            int asked = ask;
            add("update", () -> x.update(3, asked));
            addCarry(3, 2);
            addCarry(2, 3);
        }
    }

    private void addFeed() {
        add("feed", () -> x.feed(1, 2, 3, 4, 5));
    }

    private void addCarry(int from, int to) {
        add("carry", () -> x.carry(from, to));
    }

    private void addRandomCalls(Random random, int n) {
        for (int i = 0; i < n; i++) {
            int end = random.nextInt(6) - 1;
            int a = random.nextInt(4);
            int b = random.nextInt(40);
            switch (random.nextInt(24)) {
                case 0 -> addFeed();
                case 1 -> add("end", () -> x.end(b));
                case 2 -> add("make", () -> x.make(b > 20));
                case 3 -> add("tell", () -> x.tell(end, a) ? 1 : 0);
                case 4 -> add("start", () -> x.start(end) ? 1 : 0);
                case 5, 6 -> add("say", () -> x.say(end));
                case 7, 8 -> add("update", () -> x.update(end, a));
                case 9 -> add("close", () -> b < 10 && x.close(end) ? 1 : 0);
                case 10, 11 -> addCarry(end, a);
                case 12, 13 -> addCarry(a, a ^ 1);
                case 14 -> add("give", () -> b < 10 ? x.give(end) : 0);
                case 15, 16 -> add("meddle", () -> x.meddle(end, a) ? 1 : 0);
                case 17 -> add("alter", () -> b < 10 && x.alter(end, b, 1) ? 1 : 0);
                case 18 -> add("written", () -> x.written(end, a, b));
                case 19 -> add("given", () -> x.given(end, b));
                case 20 -> add("secret", () -> x.secret(end, a, b));
                case 21 -> add("state", () -> x.state(end, b));
                case 22 -> add("hash", () -> x.hash(b));
                default -> add("about", () -> x.about(a));
            }
        }
    }
}
