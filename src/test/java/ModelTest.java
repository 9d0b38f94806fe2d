import java.lang.reflect.Method;
import java.lang.reflect.Modifier;
import java.util.ArrayList;
import java.util.Arrays;
import java.util.Comparator;
import java.util.List;
import java.util.Random;

/** Long runs of calls, drawn with fixed seeds, on the class and on the plain model of the document. */
public final class ModelTest {
    private static final int RUNS = 250;
    private static final int CALLS = 512;
    private static final Answers A = new Answers();
    private static final List<Method> METHODS = new ArrayList<>();
    /** Calls that change something are drawn more often, arrivals most of all. */
    private static final List<Method> DRAWN = new ArrayList<>();

    public static void main(String[] args) throws Exception {
        for (Method m : SharedPacketBuffer.class.getDeclaredMethods()) {
            if (Modifier.isPublic(m.getModifiers())) {
                METHODS.add(m);
            }
        }
        METHODS.sort(Comparator.comparing(Method::getName));
        for (Method m : METHODS) {
            for (int i = 0; i < weight(m.getName()); i++) {
                DRAWN.add(m);
            }
        }
        for (int seed = 1; seed <= RUNS && A.wrong() == 0; seed++) {
            playRun(seed);
        }
        A.end("ModelTest");
    }

    private static int weight(String name) {
        switch (name) {
            case "arrive":
                return 60;
            case "ticks":
            case "grant":
            case "setAlpha":
            case "setBurst":
                return 6;
            case "reset":
                return 0;
            case "setLossless":
            case "setHeadroom":
            case "setReserve":
            case "setScheduler":
            case "withdraw":
            case "stageFor":
            case "largestAdmissible":
            case "burstCapacity":
            case "drainTicks":
            case "checksum":
                return 4;
            case "append":
            case "run":
                return 5;
            default:
                return 2;
        }
    }

    private static void playRun(int seed) throws Exception {
        Random random = new Random(seed);
        SharedPacketBuffer real = new SharedPacketBuffer();
        PlainModel model = new PlainModel();
        List<String> history = new ArrayList<>();
        A.about("seed " + seed);
        if (seed % 8 != 0) {
            Object[] size = {16 + random.nextInt(seed % 3 == 0 ? 113 : 33), 1 + random.nextInt(6)};
            answer(real, model, find("reset"), size, history);
        }
        if (random.nextBoolean()) {
            answer(real, model, find("setPushOut"), new Object[] {true}, history);
        }
        for (int call = 0; call < CALLS && A.wrong() == 0; call++) {
            if (random.nextInt(400) == 0) {
                answer(real, model, find("reset"), draw(find("reset"), random, model), history);
            } else if (random.nextInt(40) == 0) {
                writeText(real, model, random, history);
            } else {
                Method m = DRAWN.get(random.nextInt(DRAWN.size()));
                answer(real, model, m, draw(m, random, model), history);
            }
            if (call % 16 == 0) {
                compareAll(real, model, history);
            }
        }
    }

    private static Method find(String name) {
        for (Method m : METHODS) {
            if (m.getName().equals(name)) {
                return m;
            }
        }
        throw new IllegalArgumentException(name);
    }

    private static void answer(SharedPacketBuffer real, PlainModel model, Method m, Object[] args,
        List<String> history) throws Exception {
        String call = m.getName() + Arrays.toString(args);
        Method twin = PlainModel.class.getDeclaredMethod(m.getName(), m.getParameterTypes());
        long got = ((Number) m.invoke(real, args)).longValue();
        long want = ((Number) twin.invoke(model, args)).longValue();
        history.add(call + " = " + want);
        A.due(call, got, want);
        A.due("checksum() after " + call, real.checksum(), model.checksum());
        if (got != want) {
            System.out.println("the run: " + history);
        }
    }

    /** Mostly an argument that is fine, sometimes one at or beyond an edge. */
    private static Object[] draw(Method m, Random random, PlainModel model) {
        Class<?>[] types = m.getParameterTypes();
        Object[] args = new Object[types.length];
        for (int i = 0; i < types.length; i++) {
            if (types[i] == boolean.class) {
                args[i] = random.nextInt(3) > 0;
            } else {
                args[i] = random.nextInt(60) == 0 ? wild(random) : number(m.getName(), i, random, model);
            }
        }
        return args;
    }

    private static int wild(Random random) {
        int[] values = {Integer.MIN_VALUE, -1000, -1, 0, 3, 6, 13, 17, 33, 65, 129, 1000, Integer.MAX_VALUE};
        return values[random.nextInt(values.length)];
    }

    private static int number(String name, int index, Random random, PlainModel model) {
        switch (name) {
            case "reset":
                return index == 0 ? 16 + random.nextInt(113) : 1 + random.nextInt(6);
            case "setReserve":
            case "setHeadroom":
                return index == 0 ? port(random, model) : random.nextInt(random.nextInt(4) == 0 ? 65 : 12);
            case "setAlpha":
                return queueOr(index, random, model, random.nextInt(random.nextBoolean() ? 65 : 16));
            case "setBurst":
                return queueOr(index, random, model, random.nextInt(index == 2 ? 33 : 9));
            case "setScheduler":
                return index == 0 ? port(random, model) : random.nextInt(random.nextBoolean() ? 17 : 5);
            case "setQuantum":
                return queueOr(index, random, model, 1 + random.nextInt(16));
            case "grant":
                return index == 0 ? port(random, model) : 1 + random.nextInt(random.nextBoolean() ? 32 : 8);
            case "arrive":
            case "stageFor":
            case "burstCapacity":
                return queueOr(index, random, model, 1 + random.nextInt(12));
            case "ticks":
                return 1 + random.nextInt(random.nextInt(5) == 0 ? 20 : 2);
            case "traffic":
                return index == 0 ? random.nextInt(Integer.MAX_VALUE) : 1 + random.nextInt(index == 1 ? 16 : 3);
            case "losses":
                return index == 0 ? port(random, model) : random.nextInt(11);
            case "lossCause":
                return random.nextInt(4);
            case "packetAt":
                return queueOr(index, random, model, random.nextInt(6));
            case "fragments":
            case "fragmentStart":
            case "fragmentLength":
                return index == 0 ? model.admitted() - random.nextInt(20) : random.nextInt(3);
            case "runStart":
            case "runLength":
                return random.nextInt(5);
            case "equilibrium":
                return random.nextInt(1 << random.nextInt(20));
            case "append":
                return "at0123;fg,*91".charAt(random.nextInt(13));
            case "save":
            case "restore":
                return random.nextInt(2);
            default:
                return queueOr(index, random, model, 0);
        }
    }

    private static int queueOr(int index, Random random, PlainModel model, int other) {
        return index == 0 ? port(random, model) : index == 1 ? random.nextInt(3) : other;
    }

    /** A low port more often than a high one, so that some ports fill up. */
    private static int port(Random random, PlainModel model) {
        int ports = 1;
        while (model.credit(ports) >= 0) {
            ports++;
        }
        return random.nextInt(1 + random.nextInt(ports));
    }

    private static void writeText(SharedPacketBuffer real, PlainModel model, Random random, List<String> history)
        throws Exception {
        answer(real, model, find("clearText"), new Object[0], history);
        StringBuilder text = new StringBuilder();
        int orders = random.nextInt(12);
        for (int i = 0; i < orders; i++) {
            text.append(order(random, model));
        }
        if (text.length() > 0 && random.nextInt(3) == 0) {
            String letters = "at0123;fg,*9 ";
            int at = random.nextInt(text.length());
            char letter = letters.charAt(random.nextInt(letters.length()));
            switch (random.nextInt(4)) {
                case 0:
                    text.setCharAt(at, letter);
                    break;
                case 1:
                    text.insert(at, letter);
                    break;
                case 2:
                    text.deleteCharAt(at);
                    break;
                default:
                    text.setLength(at);
                    break;
            }
        }
        for (int i = 0; i < text.length(); i++) {
            real.append(text.charAt(i));
            model.append(text.charAt(i));
        }
        history.add("the text " + text);
        answer(real, model, find("faultPosition"), new Object[0], history);
        answer(real, model, find("run"), new Object[0], history);
    }

    private static String order(Random random, PlainModel model) {
        int port = port(random, model);
        switch (random.nextInt(6)) {
            case 0:
                return "t" + (1 + random.nextInt(random.nextInt(3) == 0 ? 21 : 4)) + ";";
            case 1:
                return random.nextInt(3) == 0 ? "f" + port + ";" : "";
            case 2:
                return "g" + port + "," + (1 + random.nextInt(random.nextInt(3) == 0 ? 33 : 9)) + ";";
            case 3:
                return "a" + port + random.nextInt(3) + (1 + random.nextInt(12)) + "*" + (2 + random.nextInt(8)) + ";";
            default:
                return "a" + port + random.nextInt(3) + (1 + random.nextInt(12)) + ";";
        }
    }

    /** Every question that changes nothing, on every port and queue. */
    private static void compareAll(SharedPacketBuffer real, PlainModel model, List<String> history) throws Exception {
        for (int port = -1; port <= 6; port++) {
            for (String name : List.of("freeGuarantee", "grantOf", "credit", "lostCells", "departed", "drainTicks")) {
                answer(real, model, find(name), new Object[] {port}, history);
            }
            for (int cause = 0; cause <= 10; cause++) {
                answer(real, model, find("losses"), new Object[] {port, cause}, history);
            }
            for (int priority = -1; priority <= 3; priority++) {
                for (String name : List.of("threshold", "isPaused", "pauses", "queueLength", "largestAdmissible")) {
                    answer(real, model, find(name), new Object[] {port, priority}, history);
                }
            }
        }
        for (int level = -1; level <= 4; level++) {
            answer(real, model, find("lossCause"), new Object[] {level}, history);
        }
    }
}
