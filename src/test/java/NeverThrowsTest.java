import java.lang.reflect.InvocationTargetException;
import java.lang.reflect.Method;
import java.lang.reflect.Modifier;
import java.util.ArrayList;
import java.util.Arrays;
import java.util.Comparator;
import java.util.List;
import java.util.Random;

/** No call throws or hangs, whatever its arguments, even far beyond 512 calls on one object. */
public final class NeverThrowsTest {
    private static final Answers A = new Answers();
    private static final int[] EDGES = {Integer.MIN_VALUE, Integer.MIN_VALUE + 1, -1001, -2, -1, 0, 1, 2, 3, 4, 5, 6, 7, 8, 9, 12, 13,
        16, 17, 20, 21, 32, 33, 64, 65, 97, 119, 120, 127, 128, 129, 262143, 262144, Integer.MAX_VALUE - 1, Integer.MAX_VALUE};

    public static void main(String[] args) throws Exception {
        List<Method> methods = new ArrayList<>();
        for (Method m : SharedPacketBuffer.class.getDeclaredMethods()) {
            if (Modifier.isPublic(m.getModifiers())) {
                methods.add(m);
            }
        }
        methods.sort(Comparator.comparing(Method::getName));
        Random random = new Random(1);
        for (int object = 0; object < 20; object++) {
            SharedPacketBuffer x = new SharedPacketBuffer();
            for (int call = 0; call < 20000; call++) {
                Method m = methods.get(random.nextInt(methods.size()));
                // A reset among the edges is rare, and so the memory fills between two of them.
                callWithEdges(x, m, random);
                x.arrive(random.nextInt(6), random.nextInt(3), 1 + random.nextInt(12));
                x.append("aft g0123,*;".charAt(random.nextInt(12)));
                checkPools(x);
            }
        }
        A.end("NeverThrowsTest");
    }

    private static void callWithEdges(SharedPacketBuffer x, Method m, Random random) throws IllegalAccessException {
        Object[] args = new Object[m.getParameterCount()];
        for (int i = 0; i < args.length; i++) {
            boolean flag = m.getParameterTypes()[i] == boolean.class;
            args[i] = flag ? (Object) random.nextBoolean() : (Object) EDGES[random.nextInt(EDGES.length)];
        }
        try {
            m.invoke(x, args);
            A.holds("it answers", true);
        } catch (InvocationTargetException e) {
            A.holds(m.getName() + Arrays.toString(args) + " does not throw " + e.getCause(), false);
        }
    }

    /** What is free is never below 0, and free and counted cells together make a memory. */
    private static void checkPools(SharedPacketBuffer x) {
        int counted = 0;
        int ports = 0;
        for (int port = 0; x.credit(port) >= 0; port++) {
            ports++;
            for (int priority = 0; priority < 3; priority++) {
                counted += x.guaranteedCells(port, priority) + x.sharedCells(port, priority) + x.headroomCells(port, priority);
            }
            A.holds("the free guarantee is not below 0", x.freeGuarantee(port) >= 0);
        }
        int free = 0;
        for (int run = 0; run < x.freeRuns(); run++) {
            free += x.runLength(run);
        }
        int cells = free + counted;
        A.holds("there are ports", ports >= 1);
        A.holds("free shared cells are not below 0", x.freeShared() >= 0);
        A.holds("every cell is free or counted", cells >= 16 && cells <= 128 && x.sharedPool() <= cells);
    }
}
