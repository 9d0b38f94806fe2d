import java.lang.reflect.Method;
import java.lang.reflect.Modifier;
import java.net.URL;
import java.net.URLClassLoader;
import java.nio.file.Files;
import java.nio.file.Path;
import java.util.ArrayList;
import java.util.Arrays;
import java.util.List;
import java.util.Set;
import java.util.TreeSet;
import java.util.regex.Matcher;
import java.util.regex.Pattern;
import java.util.stream.Stream;
import javax.tools.ToolProvider;

/**
 * README.md: its Java compiles and answers what stands behind the calls, and the rows of its
 * tables tell each call of the face, the ranges of its arguments, and its errors.
 */
public final class ReadmeTest {
    private static final Answers A = new Answers();
    private static final Pattern BLOCK = Pattern.compile("```java\n(.*?)```", Pattern.DOTALL);
    /** A call, perhaps behind a new variable, and the answer that the comment gives. */
    private static final Pattern ANSWERED = Pattern.compile(
        "(?:(?:int|long|boolean) (\\w+) = )?(.*); *// ([A-Z_]+|-?\\d+|true|false)(:.*)?");
    private static final Pattern ROW = Pattern.compile("\\| `(\\w+)\\(([^)]*)\\)` \\| (.*) \\| (.*)\\|");
    private static final Pattern CODE = Pattern.compile("`(BAD_INDEX|BAD_VALUE|NO_ROOM|IN_USE|NONE|LOST)`");
    private static final Pattern ERROR = Pattern.compile("\\| `(\\w+)` \\| (-\\d+) \\|.*");
    private static final Pattern NAMED = Pattern.compile("`([A-Z_]+)` \\((-?\\d+)\\)");
    private static final List<String> CODES = List.of("BAD_INDEX", "BAD_VALUE", "NO_ROOM", "IN_USE", "NONE", "LOST");
    /** Arguments within and beyond the ranges, with which every code comes up in one of the states. */
    private static final int[] TRIED = {-1, 0, 1, 3, 9, 33, 65, 200};

    public static void main(String[] args) throws Exception {
        String page = Files.readString(Path.of("README.md"));
        blocks(page);
        constants(page);
        rows(page);
        tests(page);
        A.end("ReadmeTest");
    }

    // ---- the Java on the page

    private static void blocks(String page) throws Exception {
        int count = 0;
        Matcher block = BLOCK.matcher(page);
        while (block.find()) {
            count++;
            A.about("README.md, Java block " + count);
            playBlock("ReadmeBlock" + count, block.group(1));
        }
        A.about("README.md");
        A.holds("the page shows the use of the class", count >= 4);
    }

    private static void playBlock(String name, String block) throws Exception {
        List<String> calls = new ArrayList<>();
        List<String> due = new ArrayList<>();
        StringBuilder code = new StringBuilder("final class " + name + " {\n    static java.util.List<Object> play() {\n"
            + "        java.util.List<Object> seen = new java.util.ArrayList<>();\n");
        for (String line : block.split("\n")) {
            Matcher m = ANSWERED.matcher(line.trim());
            if (!m.matches()) {
                A.holds("a comment begins with an answer: " + line, !line.contains("//"));
                code.append(line).append('\n');
                continue;
            }
            calls.add(m.group(2));
            due.add(Character.isUpperCase(m.group(3).charAt(0)) ? "" + constant(m.group(3)) : m.group(3));
            if (m.group(1) == null) {
                code.append("seen.add(").append(m.group(2)).append(");\n");
            } else {
                code.append(line).append("\nseen.add(").append(m.group(1)).append(");\n");
            }
        }
        code.append("        return seen;\n    }\n}\n");
        A.holds("the block gives answers", !calls.isEmpty());
        List<?> seen = compileAndPlay(name, code.toString());
        for (int i = 0; i < calls.size(); i++) {
            String got = i < seen.size() ? seen.get(i).toString() : "nothing";
            A.holds(calls.get(i) + " answers " + due.get(i) + ", not " + got, got.equals(due.get(i)));
        }
    }

    private static long constant(String name) throws ReflectiveOperationException {
        return SharedPacketBuffer.class.getField(name).getInt(null);
    }

    private static List<?> compileAndPlay(String name, String code) throws Exception {
        Path place = Files.createTempDirectory("readme");
        try {
            Path source = place.resolve(name + ".java");
            Files.writeString(source, code);
            int exit = ToolProvider.getSystemJavaCompiler().run(null, null, null, "--release", "17", "-Xlint:all", "-Werror",
                "-cp", System.getProperty("java.class.path"), "-d", place.toString(), source.toString());
            A.due("javac", exit, 0);
            if (exit != 0) {
                return List.of();
            }
            try (URLClassLoader loader = new URLClassLoader(new URL[] {place.toUri().toURL()},
                ReadmeTest.class.getClassLoader())) {
                Method play = loader.loadClass(name).getDeclaredMethod("play");
                play.setAccessible(true);
                return (List<?>) play.invoke(null);
            }
        } finally {
            remove(place);
        }
    }

    private static void remove(Path place) throws Exception {
        List<Path> files;
        try (Stream<Path> inside = Files.list(place)) {
            files = inside.toList();
        }
        for (Path file : files) {
            Files.delete(file);
        }
        Files.delete(place);
    }

    // ---- the tables

    /** Every constant stands on the page with its value. */
    private static void constants(String page) throws Exception {
        A.about("README.md, the constants");
        Set<String> told = new TreeSet<>();
        for (Pattern pattern : List.of(ERROR, NAMED)) {
            Matcher m = pattern.matcher(page);
            while (m.find()) {
                told.add(m.group(1));
                A.due(m.group(1), constant(m.group(1)), Long.parseLong(m.group(2)));
            }
        }
        A.due("the number of constants", told.size(), SharedPacketBuffer.class.getFields().length);
    }

    private static void rows(String page) throws Exception {
        Set<String> told = new TreeSet<>();
        Matcher row = ROW.matcher(page);
        while (row.find()) {
            A.about("README.md, the row of " + row.group(1));
            A.holds("the call has one row", told.add(row.group(1)));
            Method method = find(row.group(1));
            String[] arguments = row.group(2).isEmpty() ? new String[0] : row.group(2).split(", ");
            A.due("the number of arguments", method.getParameterCount(), arguments.length);
            ranges(method, arguments);
            codes(method, row.group(4));
        }
        Set<String> face = new TreeSet<>();
        for (Method m : SharedPacketBuffer.class.getDeclaredMethods()) {
            if (Modifier.isPublic(m.getModifiers())) {
                face.add(m.getName());
            }
        }
        A.about("README.md");
        A.holds("each call has a row: " + face + ", not " + told, face.equals(told));
    }

    private static Method find(String name) {
        for (Method m : SharedPacketBuffer.class.getDeclaredMethods()) {
            if (m.getName().equals(name) && Modifier.isPublic(m.getModifiers())) {
                return m;
            }
        }
        throw new IllegalArgumentException(name);
    }

    /** Both ends of a range are taken and their neighbours refused; all other arguments are at their low ends. */
    private static void ranges(Method method, String[] arguments) throws Exception {
        for (int i = 0; i < arguments.length; i++) {
            if (arguments[i].contains(" ")) {
                String[] ends = arguments[i].split(" ")[1].split("\\.\\.");
                int low = Integer.parseInt(ends[0]);
                int high = Integer.parseInt(ends[1]);
                A.holds(arguments[i] + " takes its ends", isTaken(method, arguments, i, low) && isTaken(method, arguments, i, high));
                A.holds(arguments[i] + " takes nothing below", !isTaken(method, arguments, i, low - 1));
                A.holds(arguments[i] + " takes nothing above", !isTaken(method, arguments, i, high + 1));
            }
        }
    }

    private static boolean isTaken(Method method, String[] arguments, int index, int value) throws Exception {
        int[] numbers = new int[arguments.length];
        for (int i = 0; i < arguments.length; i++) {
            numbers[i] = arguments[i].contains(" ") ? Integer.parseInt(arguments[i].split("[ .]")[1]) : 0;
        }
        numbers[index] = value;
        long got = call(new SharedPacketBuffer(), method, numbers);
        return got != SharedPacketBuffer.BAD_INDEX && got != SharedPacketBuffer.BAD_VALUE;
    }

    /** The codes of a row are those that come up, and the first error of the row is checked first. */
    private static void codes(Method method, String cell) throws Exception {
        List<String> told = new ArrayList<>();
        Matcher code = CODE.matcher(cell);
        while (code.find()) {
            told.add(code.group(1));
        }
        Set<String> seen = new TreeSet<>();
        for (int state = 0; state < 4; state++) {
            tryAll(method, state, new int[method.getParameterCount()], 0, seen);
        }
        A.holds("the codes are " + seen + ", not " + told, seen.equals(new TreeSet<>(told)));
        if (!told.isEmpty() && method.getParameterCount() > 0) {
            int[] wrong = new int[method.getParameterCount()];
            Arrays.fill(wrong, -1);
            for (int state = 0; state < 4; state++) {
                A.due("the call with -1 everywhere", call(make(state), method, wrong), constant(told.get(0)));
            }
        }
    }

    private static void tryAll(Method method, int state, int[] numbers, int index, Set<String> seen) throws Exception {
        if (index < numbers.length) {
            for (int value : TRIED) {
                numbers[index] = value;
                tryAll(method, state, numbers, index + 1, seen);
            }
            return;
        }
        long got = call(make(state), method, numbers);
        if (method.getReturnType() == int.class) {
            A.holds(method.getName() + " answers below 0 by a code alone: " + got,
                got >= SharedPacketBuffer.LOST || method.getName().equals("run") && got <= -1000 && got >= -1120);
            if (got < 0 && got >= SharedPacketBuffer.LOST) {
                seen.add(CODES.get((int) (-1 - got)));
            }
        }
    }

    private static long call(SharedPacketBuffer x, Method method, int[] numbers) throws Exception {
        Object[] args = new Object[numbers.length];
        for (int i = 0; i < numbers.length; i++) {
            boolean isFlag = method.getParameterTypes()[i] == boolean.class;
            args[i] = isFlag ? (Object) (numbers[i] > 0) : (Object) numbers[i];
        }
        return ((Number) method.invoke(x, args)).longValue();
    }

    /** A new object; headroom in use; a full memory with a full text; a port that cannot send. */
    private static SharedPacketBuffer make(int state) {
        SharedPacketBuffer x = new SharedPacketBuffer();
        switch (state) {
            case 1:
                x.setLossless(0, 1, true);
                x.setHeadroom(0, 6);
                x.setAlpha(0, 1, 0);
                x.arrive(0, 1, 4);
                x.append('t');
                break;
            case 2:
                x.reset(16, 4);
                x.setAlpha(0, 0, 64);
                x.arrive(0, 0, 12);
                x.arrive(0, 0, 4);
                x.arrive(0, 0, 1);
                for (int i = 0; i < 120; i++) {
                    x.append(';');
                }
                break;
            case 3:
                x.setScheduler(0, false, 0);
                x.arrive(0, 0, 1);
                x.save(0);
                break;
            default:
                break;
        }
        return x;
    }

    /** Every test of the project has a row. */
    private static void tests(String page) throws Exception {
        A.about("README.md, the tests");
        try (Stream<Path> files = Files.list(Path.of("src/test/java"))) {
            for (Path file : files.toList()) {
                String name = file.getFileName().toString().replace(".java", "");
                A.holds(name + " stands on the page", !name.endsWith("Test") || page.contains("| " + name + " |"));
            }
        }
        A.holds("the page says how to run them", page.contains("\n    .ci/run\n"));
        A.holds("the page says for how many calls an object is meant", page.contains("at most 512 calls"));
    }
}
