import java.lang.reflect.Field;
import java.lang.reflect.Method;
import java.util.ArrayList;
import java.util.List;

/**
 * Plays calls that are written as in the document, 'reset(32, 2) = 64; arrive(0, 3, 1) = BAD_INDEX',
 * on a new object, and holds each answer against the one behind the call.
 */
final class Script {
    private final Answers answers;
    private final SharedPacketBuffer buffer = new SharedPacketBuffer();

    Script(Answers answers, String about) {
        this.answers = answers;
        answers.about(about);
    }

    Script play(String calls) {
        for (String line : calls.split(";")) {
            if (!line.isBlank()) {
                String[] sides = line.split("=");
                answers.due(sides[0].trim(), call(sides[0].trim()), value(sides[1].trim()));
            }
        }
        return this;
    }

    /** Plays calls after each of which everything must be as it was before. */
    Script playUnchanged(String calls) {
        for (String line : calls.split(";")) {
            if (!line.isBlank()) {
                List<Long> before = everything();
                play(line);
                answers.holds("nothing changes by " + line.trim(), before.equals(everything()));
            }
        }
        return this;
    }

    Script write(String text) {
        for (int i = 0; i < text.length(); i++) {
            buffer.append(text.charAt(i));
        }
        return this;
    }

    /** Holds the fault position of a text, and what run() says of it, against the one that is due. */
    Script fault(String text, int position) {
        buffer.clearText();
        write(text);
        answers.due("faultPosition() of '" + text + "'", buffer.faultPosition(), position);
        if (position >= 0) {
            List<Long> before = everything();
            answers.due("run() of '" + text + "'", buffer.run(), -1000 - position);
            answers.holds("nothing is carried out of '" + text + "'", before.equals(everything()));
        }
        return this;
    }

    Script sameAs(Script other) {
        answers.holds("two objects answer the same", everything().equals(other.everything()));
        return this;
    }

    /** The checksum of values that a test names one by one. */
    Script checksum(long... values) {
        long h = 7;
        for (long value : values) {
            h = 31 * h + value;
        }
        answers.due("checksum()", buffer.checksum(), h);
        return this;
    }

    private long call(String text) {
        int open = text.indexOf('(');
        String name = text.substring(0, open);
        String inside = text.substring(open + 1, text.lastIndexOf(')')).trim();
        String[] words = inside.isEmpty() ? new String[0] : inside.split(",");
        for (Method m : SharedPacketBuffer.class.getDeclaredMethods()) {
            if (m.getName().equals(name) && m.getParameterCount() == words.length) {
                return invoke(m, words);
            }
        }
        throw new IllegalArgumentException(text);
    }

    private long invoke(Method m, String[] words) {
        Object[] args = new Object[words.length];
        for (int i = 0; i < words.length; i++) {
            String word = words[i].trim();
            if (m.getParameterTypes()[i] == boolean.class) {
                args[i] = Boolean.valueOf(word);
            } else {
                args[i] = (int) value(word);
            }
        }
        try {
            return ((Number) m.invoke(buffer, args)).longValue();
        } catch (ReflectiveOperationException e) {
            throw new IllegalStateException(m.getName(), e);
        }
    }

    private static long value(String word) {
        if (word.equals("MIN")) {
            return Integer.MIN_VALUE;
        }
        if (word.equals("MAX")) {
            return Integer.MAX_VALUE;
        }
        if (!Character.isUpperCase(word.charAt(0))) {
            return Long.parseLong(word);
        }
        try {
            Field constant = SharedPacketBuffer.class.getField(word);
            return constant.getInt(null);
        } catch (ReflectiveOperationException e) {
            throw new IllegalArgumentException(word, e);
        }
    }

    /** All that can be asked without a change. */
    private List<Long> everything() {
        List<Long> all = new ArrayList<>();
        all.add(buffer.checksum());
        all.add((long) buffer.faultPosition());
        all.add((long) buffer.freeRuns());
        for (int port = 0; port < 6; port++) {
            for (int cause = 1; cause <= 9; cause++) {
                all.add((long) buffer.losses(port, cause));
            }
            all.add((long) buffer.drainTicks(port));
            for (int priority = 0; priority < 3; priority++) {
                all.add((long) buffer.threshold(port, priority));
                all.add((long) buffer.pauses(port, priority));
                all.add((long) buffer.largestAdmissible(port, priority));
                all.add((long) buffer.burstCapacity(port, priority, 1));
                all.add((long) buffer.equilibrium(1 << 3 * port + priority, true));
                for (int index = 0; index < buffer.queueLength(port, priority); index++) {
                    int packet = buffer.packetAt(port, priority, index);
                    all.add((long) packet);
                    for (int fragment = 0; fragment < buffer.fragments(packet); fragment++) {
                        all.add((long) buffer.fragmentStart(packet, fragment));
                        all.add((long) buffer.fragmentLength(packet, fragment));
                    }
                }
            }
        }
        for (int level = 0; level < 4; level++) {
            all.add((long) buffer.lossCause(level));
        }
        return all;
    }
}
