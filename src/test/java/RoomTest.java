import com.sun.management.ThreadMXBean;
import java.lang.management.ManagementFactory;
import java.lang.reflect.Array;
import java.lang.reflect.Field;
import java.lang.reflect.Modifier;
import java.util.Collections;
import java.util.IdentityHashMap;
import java.util.Set;

/** Rule 12 of LANGUAGE.md: what a court holds is small, and its calls make nothing new. */
public final class RoomTest {
    private static final int MOST_OBJECTS = 40;
    private static final int MOST_ELEMENTS = 500;
    private static final int COURTS = 2000;
    // The JVM's own bookkeeping; a single object in each of the courts would take more.
    private static final long SPARE_BYTES = 8L * COURTS;

    private final Set<Object> objects = Collections.newSetFromMap(new IdentityHashMap<>());
    private int elements;

    public static void main(String[] args) throws IllegalAccessException {
        StepCourt used = new StepCourt();
        use(used);
        RoomTest room = new RoomTest();
        room.count(used);
        Check.yes("objects: " + room.objects.size(), room.objects.size() <= MOST_OBJECTS);
        Check.yes("fields and elements: " + room.elements, room.elements <= MOST_ELEMENTS);
        callsMakeNothing();
        Check.finish();
    }

    private void count(Object object) throws IllegalAccessException {
        if (object == null || !objects.add(object)) {
            return;
        }
        if (object.getClass().isArray()) {
            elements += Array.getLength(object);
            if (object instanceof Object[] array) {
                for (Object each : array) {
                    count(each);
                }
            }
            return;
        }
        for (Field field : object.getClass().getDeclaredFields()) {
            if (!Modifier.isStatic(field.getModifiers())) {
                elements++;
                field.setAccessible(true);
                if (!field.getType().isPrimitive()) {
                    count(field.get(object));
                }
            }
        }
    }

    private static void callsMakeNothing() {
        ThreadMXBean threads = (ThreadMXBean) ManagementFactory.getThreadMXBean();
        StepCourt[] courts = new StepCourt[COURTS];
        for (int i = 0; i < COURTS; i++) {
            courts[i] = new StepCourt();
        }
        long before = threads.getCurrentThreadAllocatedBytes();
        for (StepCourt court : courts) {
            use(court);
        }
        long made = threads.getCurrentThreadAllocatedBytes() - before;
        Check.yes("bytes made by calls: " + made, made < SPARE_BYTES);
    }

    /** Each kind of call, none of which throws; twice round, by a game that is won and one that is lost. */
    private static void use(StepCourt court) {
        court.code(0, 1, 5);
        court.code(1, 8, 0);
        court.code(2, 13, 0);
        court.deposit(0, 50);
        court.send(7);
        court.claim(1, 3, 0);
        court.challenge(2);
        court.post(0, 0);
        court.pick(0, false);
        court.post(0, 0);
        court.pick(0, true);
        court.prove(0, 7, 1);
        court.prove(0, 0, 0);
        for (int i = 0; i < 12; i++) {
            court.block();
        }
        court.draw(0);
        court.claim(1, 64, 9);
        court.challenge(3);
        for (int i = 0; i < 5; i++) {
            court.block();
        }
        ask(court);
    }

    private static void ask(StepCourt court) {
        for (int k = -1; k <= 64; k++) {
            court.balance(k);
            court.word(k);
            court.truth(k);
            court.state(k);
            court.assertion(k);
            court.game(k & 3, k);
        }
        court.pot();
        court.base();
    }
}
