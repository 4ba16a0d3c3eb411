import com.sun.management.ThreadMXBean;
import java.lang.management.ManagementFactory;
import java.lang.reflect.Array;
import java.lang.reflect.Field;
import java.lang.reflect.Modifier;
import java.util.IdentityHashMap;
import java.util.Map;

/** The room that an object takes, and that calls make nothing anew. */
public final class SpaceTest {
    private static final int MOST_CALLS = 512;
    private static final String TEXT = "N4w0500w1123h20p052030t09w3007f3";
    private static final int CALLS_OF_ROUND = 19;
    private static final int OBJECTS = 40;
    private static final Check CHECK = new Check();

    private final Map<Object, Boolean> seen = new IdentityHashMap<>();
    private long cells = 0;

    public static void main(String[] args) throws IllegalAccessException {
        SpaceTest fresh = new SpaceTest();
        fresh.count(new HeldNotes());
        CHECK.same("objects and arrays of an object are few", fresh.seen.size() <= 1000 ? 1 : 0, 1);
        CHECK.same("fields and elements of an object are few", fresh.cells <= 10000 ? 1 : 0, 1);
        System.out.println("SpaceTest: " + fresh.seen.size() + " objects and arrays, " + fresh.cells
                + " fields and elements");
        callsMakeNothing();
        CHECK.finish("SpaceTest");
    }

    private void count(Object object) throws IllegalAccessException {
        if (object == null || seen.put(object, true) != null) {
            return;
        }
        if (object.getClass().isArray()) {
            cells += Array.getLength(object);
            if (object instanceof Object[] array) {
                for (Object element : array) {
                    count(element);
                }
            }
            return;
        }
        for (Field field : object.getClass().getDeclaredFields()) {
            if (!Modifier.isStatic(field.getModifiers())) {
                cells++;
                field.setAccessible(true);
                if (!field.getType().isPrimitive()) {
                    count(field.get(object));
                }
            }
        }
    }

    private static void callsMakeNothing() {
        ThreadMXBean threads = (ThreadMXBean) ManagementFactory.getThreadMXBean();
        HeldNotes[] objects = new HeldNotes[OBJECTS];
        for (int i = 0; i < OBJECTS; i++) {
            objects[i] = new HeldNotes();
            TextTest.type(objects[i], TEXT);
        }
        useUp(objects[0]);
        threads.getCurrentThreadAllocatedBytes();
        long before = threads.getCurrentThreadAllocatedBytes();
        for (int i = 1; i < OBJECTS; i++) {
            useUp(objects[i]);
        }
        long made = threads.getCurrentThreadAllocatedBytes() - before;
        System.out.println("SpaceTest: " + made + " bytes are made by all calls of " + (OBJECTS - 1) + " objects");
        CHECK.same("calls make nothing", made < 4096 ? 1 : 0, 1);
    }

    /** As many rounds of calls as an object is used for, behind its clearText() and the signs of the text. */
    private static void useUp(HeldNotes x) {
        int rounds = (MOST_CALLS - 1 - TEXT.length()) / CALLS_OF_ROUND;
        for (int i = 0; i < rounds; i++) {
            doRound(x, i);
        }
    }

    private static void doRound(HeldNotes x, int i) {
        x.load();
        x.save(0);
        x.write(0, 33);
        x.plan(20, 1, 50);
        x.hold(1, i % 2 == 0);
        x.flush(2);
        x.set(1, i % 21);
        x.ticks(99);
        x.post(4);
        x.undo();
        x.write(2, 500);
        x.doneIn(2);
        x.thereIn(2, 500);
        x.ifHeld(2, 3);
        x.best(2, 2);
        x.runScript(3, 200998099982999L);
        x.simulate(i, 60);
        x.errorPosition();
        x.restore(0);
    }
}
