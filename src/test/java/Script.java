import java.lang.reflect.Field;
import java.lang.reflect.Method;
import java.util.ArrayList;
import java.util.List;

/**
 * Plays calls that are written as in the document, 'reset(32, 2) = 64; arrive(0, 3, 1) = BAD_INDEX',
 * on a new object, and holds each answer against the one behind the call. A line's end parts
 * calls as a semicolon does.
 */
final class Script {
    private final Answers answers;
    private final SharedPacketBuffer buffer = new SharedPacketBuffer();
    /** The calls so far but for those that must change nothing, so that the state can be made again. */
    private final List<String> past = new ArrayList<>();

    Script(Answers answers, String about) {
        this.answers = answers;
        answers.about(about);
    }

    Script play(String calls) {
        for (String line : calls.split("[;\n]")) {
            if (!line.isBlank()) {
                String call = line.split("=")[0].trim();
                ask(call, line.split("=")[1].trim());
                past.add(call);
            }
        }
        return this;
    }

    private void ask(String call, String answer) {
        answers.due(call, call(buffer, call), value(answer));
    }

    /** Plays calls after each of which everything must be as it was before. */
    Script playUnchanged(String calls) {
        List<Long> before = everything(buffer);
        List<Long> without = Probe.of(past, "");
        for (String line : calls.split("[;\n]")) {
            if (!line.isBlank()) {
                String call = line.split("=")[0].trim();
                ask(call, line.split("=")[1].trim());
                answers.holds("nothing changes by " + call, before.equals(everything(buffer)));
                answers.holds("nothing hidden changes by " + call, without.equals(Probe.of(past, call)));
            }
        }
        return this;
    }

    /** Plays calls that all are refused with the same answer and change nothing. */
    Script refused(String answer, String... calls) {
        return playUnchanged(String.join(" = " + answer + ";", calls) + " = " + answer);
    }

    /** A call, with # for its port, is refused for the ports beside those that exist, and far from them. */
    Script noSuchPort(int ports, String call) {
        for (String port : new String[] {"-1", "" + ports, "MIN", "MAX"}) {
            refused("BAD_INDEX", call.replace("#", port));
        }
        return this;
    }

    /** A call, with # for its port, is not refused for its port. */
    Script answersAt(String call, String... ports) {
        for (String port : ports) {
            String here = call.replace("#", port);
            answers.holds(here + " finds the port", call(buffer, here) != SharedPacketBuffer.BAD_INDEX);
            past.add(here);
        }
        return this;
    }

    /** A call, with # for its port and its priority, is refused for the queues that do not exist. */
    Script noSuchQueue(int ports, String call) {
        noSuchPort(ports, call.replace("#", "#, 0"));
        for (String priority : new String[] {"-1", "3", "MIN", "MAX"}) {
            refused("BAD_INDEX", call.replace("#", "0, " + priority));
        }
        return refused("BAD_INDEX", call.replace("#", ports + ", 3"));
    }

    Script write(String text) {
        for (int i = 0; i < text.length(); i++) {
            buffer.append(text.charAt(i));
            past.add("append(" + (int) text.charAt(i) + ")");
        }
        return this;
    }

    /** A switch with 48 cells and 3 ports in the midst of its work, in which little is as it was at first. */
    Script busy() {
        return play("""
            reset(48, 3) = 64
            setReserve(0, 4) = 0
            setHeadroom(1, 6) = 0
            setReserve(2, 2) = 0
            setBurst(0, 0, 5, 2) = 0
            setLossless(1, 1, true) = 0
            setAlpha(1, 1, 0) = 8
            setAlpha(0, 1, 12) = 8
            setScheduler(0, true, 3) = 4
            setQuantum(0, 1, 6) = 4
            setPushOut(true) = 0
            grant(2, 3) = NONE
            grant(0, 2) = NONE
            arrive(0, 0, 7) = 0
            arrive(1, 1, 4) = 1
            arrive(0, 1, 5) = 2
            arrive(1, 1, 3) = LOST
            arrive(0, 2, 3) = 3
            arrive(2, 0, 6) = 4
            save(1) = 0
            ticks(1) = 1
            arrive(1, 1, 2) = 5
            """).write("a001*2;t2;f1;g1,1;");
    }

    /** Holds the fault position of a text, and what run() says of it, against the one that is due. */
    Script fault(String text, int position) {
        buffer.clearText();
        past.add("clearText()");
        write(text);
        answers.due("faultPosition() of '" + text + "'", buffer.faultPosition(), position);
        if (position >= 0) {
            List<Long> before = everything(buffer);
            answers.due("run() of '" + text + "'", buffer.run(), -1000 - position);
            answers.holds("nothing is carried out of '" + text + "'", before.equals(everything(buffer)));
        }
        return this;
    }

    Script sameAs(Script other) {
        answers.holds("two objects answer the same", everything(buffer).equals(everything(other.buffer)));
        answers.holds("two objects go on in the same way", Probe.of(past, "").equals(Probe.of(other.past, "")));
        return this;
    }

    /** The checksum of values that a test names one by one. */
    Script checksum(long... values) {
        long h = 7;
        for (long value : values) {
            h = 31 * h + value;
        }
        answers.due("checksum()", buffer.checksum(), h);
        return this;
    }

    static long call(SharedPacketBuffer x, String text) {
        int open = text.indexOf('(');
        String name = text.substring(0, open);
        String inside = text.substring(open + 1, text.lastIndexOf(')')).trim();
        String[] words = inside.isEmpty() ? new String[0] : inside.split(",");
        for (Method m : SharedPacketBuffer.class.getDeclaredMethods()) {
            if (m.getName().equals(name) && m.getParameterCount() == words.length) {
                return invoke(x, m, words);
            }
        }
        throw new IllegalArgumentException(text);
    }

    private static long invoke(SharedPacketBuffer x, Method m, String[] words) {
        Object[] args = new Object[words.length];
        for (int i = 0; i < words.length; i++) {
            String word = words[i].trim();
            if (m.getParameterTypes()[i] == boolean.class) {
                args[i] = Boolean.valueOf(word);
            } else {
                args[i] = (int) value(word);
            }
        }
        try {
            return ((Number) m.invoke(x, args)).longValue();
        } catch (ReflectiveOperationException e) {
            throw new IllegalStateException(m.getName(), e);
        }
    }

    private static long value(String word) {
        if (word.equals("MIN")) {
            return Integer.MIN_VALUE;
        }
        if (word.equals("MAX")) {
            return Integer.MAX_VALUE;
        }
        if (!Character.isUpperCase(word.charAt(0))) {
            return Long.parseLong(word);
        }
        try {
            Field constant = SharedPacketBuffer.class.getField(word);
            return constant.getInt(null);
        } catch (ReflectiveOperationException e) {
            throw new IllegalArgumentException(word, e);
        }
    }

    /** All that can be asked without a change. */
    static List<Long> everything(SharedPacketBuffer x) {
        List<Long> all = new ArrayList<>();
        all.add(x.checksum());
        all.add((long) x.faultPosition());
        all.add((long) x.freeRuns());
        for (int port = 0; port < 6; port++) {
            for (int cause = 1; cause <= 9; cause++) {
                all.add((long) x.losses(port, cause));
            }
            all.add((long) x.drainTicks(port));
            for (int priority = 0; priority < 3; priority++) {
                all.add((long) x.threshold(port, priority));
                all.add((long) x.pauses(port, priority));
                all.add((long) x.largestAdmissible(port, priority));
                all.add((long) x.burstCapacity(port, priority, 1));
                all.add((long) x.equilibrium(1 << 3 * port + priority, true));
                for (int index = 0; index < x.queueLength(port, priority); index++) {
                    int packet = x.packetAt(port, priority, index);
                    all.add((long) packet);
                    for (int fragment = 0; fragment < x.fragments(packet); fragment++) {
                        all.add((long) x.fragmentStart(packet, fragment));
                        all.add((long) x.fragmentLength(packet, fragment));
                    }
                }
            }
        }
        for (int level = 0; level < 4; level++) {
            all.add((long) x.lossCause(level));
        }
        return all;
    }
}
