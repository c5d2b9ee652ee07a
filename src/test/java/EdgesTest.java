import java.lang.management.ManagementFactory;
import java.lang.reflect.InvocationTargetException;
import java.lang.reflect.Method;
import java.lang.reflect.Modifier;
import java.util.ArrayList;
import java.util.Comparator;
import java.util.List;
import java.util.Random;

/** No call throws, whatever its arguments are, and no call but a constructor makes anything. */
public final class EdgesTest {
    private static final Checks CHECKS = new Checks("edges");
    private static final int[] EDGES = {0, 0, 0, 1, 1, 2, 3, 4, 5, 6, 7, 8, 9, 10, 11, 12, 13, 19, 20, 21, 39, 40, 41,
        79, 80, 81, 99, 100, 101, 199, 200, 201, 255, 256, 299, 300, 364, 365, 366, 9999, 10000, 10001, 65535, 65536,
        99998, 99999, 100000, 100001, 999999, 1000000, -1, -1, -2, -3, -1000, Integer.MAX_VALUE,
        Integer.MAX_VALUE - 1, Integer.MIN_VALUE, Integer.MIN_VALUE + 1, 0x61312831, 0x73303b73, 0x313b7030,
        0x70303b77};

    public static void main(String[] args) throws Exception {
        anyArguments();
        littleIsMade();
        CHECKS.end();
    }

    private static List<Method> face() {
        List<Method> face = new ArrayList<>();
        for (Method method : OrphanShelf.class.getDeclaredMethods()) {
            if (Modifier.isPublic(method.getModifiers())) {
                face.add(method);
            }
        }
        face.sort(Comparator.comparing(Method::getName));
        return face;
    }

    private static void anyArguments() throws Exception {
        List<Method> face = face();
        CHECKS.due("methods", face.size(), 35);
        for (int seed = 0; seed < 1000; seed++) {
            Random random = new Random(seed);
            OrphanShelf x = new OrphanShelf();
            int small = 1 + random.nextInt(EDGES.length);
            // With the feeding of some texts these are 512 calls at most: what later ones do is not promised.
            for (int call = 0; call < 400; call++) {
                Method method = face.get(random.nextInt(face.size()));
                if (call % 40 == 0) {
                    Shelves.law(x, random.nextInt(4), new TextMaker(random, "ssaltufpppwex").law());
                }
                Object[] values = new Object[method.getParameterCount()];
                for (int i = 0; i < values.length; i++) {
                    boolean isFlag = method.getParameterTypes()[i] == boolean.class;
                    values[i] = isFlag ? (Object) random.nextBoolean() : (Object) EDGES[random.nextInt(small)];
                }
                try {
                    method.invoke(x, values);
                    CHECKS.due("ends", 0, 0);
                } catch (InvocationTargetException thrown) {
                    CHECKS.due(method.getName() + " threw " + thrown.getCause(), 1, 0);
                }
            }
        }
    }

    private static long made() {
        return ((com.sun.management.ThreadMXBean) ManagementFactory.getThreadMXBean()).getCurrentThreadAllocatedBytes();
    }

    private static void littleIsMade() {
        made();
        long before = made();
        OrphanShelf x = new OrphanShelf();
        long object = made() - before;
        CHECKS.due("bytes of an object: " + object, object < 72000, true);
        fill(new OrphanShelf());
        before = made();
        fill(x);
        long calls = made() - before;
        CHECKS.due("bytes of 500 calls: " + calls, calls < 2000, true);
    }

    private static void fill(OrphanShelf x) {
        x.now(500);
        for (int i = 0; i < 40; i++) {
            x.owner(i % 2 == 0, 0);
            x.work(0, 0, 0, 5, i, i % 7 == 0 ? -1 : i - 1);
            x.share(i, i, 50);
            x.look(i, i % 12, i, -1);
            x.list(i, i % 4);
        }
        x.feed(0x73303b73, 0x313b7030, 0x3b773928, 0x663d303b, 0x61390000);
        x.law(0, 0, 99999, 13);
        x.feed(0x73303b73, 0x313b7030, 0x3b773928, 0x663d3029, 0);
        x.law(0, 0, 99999, 16);
        for (int i = 0; i < 40; i++) {
            x.enough(i, 0, 5, 500);
            x.cheapest(i, 0, -1);
            x.ask(0, i, 0, 0);
            x.joined(0, 1, 8, 0, 0);
            x.audit(5, i, 1);
            x.shown(0);
        }
    }
}
