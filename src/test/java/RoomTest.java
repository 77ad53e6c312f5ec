import java.lang.management.ManagementFactory;
import java.lang.reflect.Array;
import java.lang.reflect.Field;
import java.lang.reflect.Modifier;
import java.util.ArrayDeque;
import java.util.Collections;
import java.util.Deque;
import java.util.IdentityHashMap;
import java.util.Set;

/** What an object holds is small, and its calls make nothing. */
public final class RoomTest {
    private static final int NONE = LostSevens.NONE;
    private static final int ROUNDS = 200;

    public static void main(String[] args) throws IllegalAccessException {
        LostSevens x = full();
        size(x);
        long before = allocated();
        for (int i = 0; i < ROUNDS; i++) {
            calls(x);
        }
        // Asking makes a little itself; a call that made one object a round would make far more.
        Due.due("calls make nothing", allocated() - before < 8 * ROUNDS, true);
        Due.close();
    }

    private static long allocated() {
        return ((com.sun.management.ThreadMXBean) ManagementFactory.getThreadMXBean())
                .getThreadAllocatedBytes(Thread.currentThread().getId());
    }

    private static LostSevens full() {
        LostSevens x = new LostSevens();
        for (int i = 0; i < 12; i++) {
            x.line(i % 7, 7 - i % 3, 0, 0x80, 1, 500);
        }
        Due.rules(x, 0, "7 to 66 when not (day>3 or place*2=left+1);1 to 7777;");
        Due.paper(x, "171717171717");
        Due.seen(x, "66");
        x.image(true);
        return x;
    }

    private static void calls(LostSevens x) {
        x.send(0, 0, NONE, NONE, NONE);
        x.undo();
        x.comes(0, 1, 3);
        x.meant(0, 0, 4, 0);
        x.twin(0, 0, 0);
        x.code(0, 20, 0);
        x.best(0, 6, 0);
        x.clerks();
        x.look(0);
        x.cure(0, 0);
        x.day();
        x.feed(0x37746F36, 0x7768656E, 0x28313D31, 0x293B2020, 0x20202020);
        x.text(3);
        x.feed(1, 2, 3, 4, 5);
        x.text(2);
        x.image(false);
        x.image(true);
        x.tells(0);
        x.of(0, 17);
        x.book(0, 0);
    }

    private static void size(Object root) throws IllegalAccessException {
        Set<Object> known = Collections.newSetFromMap(new IdentityHashMap<>());
        Deque<Object> open = new ArrayDeque<>();
        open.add(root);
        long fields = 0;
        while (!open.isEmpty()) {
            Object next = open.remove();
            if (!known.add(next)) {
                continue;
            }
            if (next.getClass().isArray()) {
                fields += Array.getLength(next);
                if (!(next.getClass().getComponentType().isPrimitive())) {
                    for (Object part : (Object[]) next) {
                        open.add(part);
                    }
                }
                continue;
            }
            for (Field field : next.getClass().getDeclaredFields()) {
                if (!Modifier.isStatic(field.getModifiers())) {
                    fields++;
                    field.setAccessible(true);
                    if (!field.getType().isPrimitive()) {
                        open.add(field.get(next));
                    }
                }
            }
        }
        System.out.println(known.size() + " objects, " + fields + " fields and elements");
        Due.due("few objects", known.size() <= 1100, true);
        Due.due("few fields and elements", fields <= 14000, true);
    }
}
