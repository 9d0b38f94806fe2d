import java.lang.reflect.Constructor;
import java.lang.reflect.Field;
import java.lang.reflect.Member;
import java.lang.reflect.Method;
import java.lang.reflect.Modifier;
import java.nio.file.Files;
import java.nio.file.Path;
import java.util.Set;
import java.util.TreeSet;
import java.util.regex.Pattern;

/** The public face of the document, and the rules of LANGUAGE.md that can be seen from outside. */
public final class FaceTest {
    private static final Answers A = new Answers();
    private static final String CONSTANTS = "BAD_INDEX=-1 BAD_VALUE=-2 NO_ROOM=-3 IN_USE=-4 NONE=-5 LOST=-6 GUARANTEE_FULL=1"
        + " POOL_EMPTY=2 OVER_THRESHOLD=3 NOT_LOSSLESS=4 HEADROOM_FULL=5 PUSH_OUT_OFF=6 NO_VICTIM=7 PUSHED_OUT=8 FLUSHED=9";
    /** Each method with its parameters, i for int and b for boolean, and what it answers. */
    private static final String METHODS = "reset:ii:int setReserve:ii:int setHeadroom:ii:int setAlpha:iii:int setBurst:iiii:int"
        + " setLossless:iib:int setScheduler:ibi:int setQuantum:iii:int setPushOut:b:int grant:ii:int withdraw:i:int"
        + " arrive:iii:int ticks:i:int flush:i:int traffic:iii:int freeShared::int sharedPool::int freeGuarantee:i:int"
        + " grantOf:i:int threshold:ii:int guaranteedCells:ii:int sharedCells:ii:int headroomCells:ii:int burstTank:ii:int"
        + " isPaused:ii:int pauses:ii:int credit:i:int deficit:ii:int losses:ii:int lostCells:i:int lossCause:i:int"
        + " departed:i:int admitted::int time::int queueLength:ii:int packetAt:iii:int fragments:i:int fragmentStart:ii:int"
        + " fragmentLength:ii:int freeRuns::int runStart:i:int runLength:i:int stageFor:iii:int largestAdmissible:ii:int"
        + " burstCapacity:iii:int drainTicks:i:int equilibrium:ib:int append:i:int clearText::int faultPosition::int run::int"
        + " save:i:int restore:i:int checksum::long";
    private static final String FORBIDDEN = "throw|throws|try|catch|synchronized|assert|package|import|volatile|native|float|double"
        + "|Object|System\\.out|hashCode|toString|->|::";

    public static void main(String[] args) throws Exception {
        face();
        insides();
        source();
        A.end("FaceTest");
    }

    private static void face() throws Exception {
        A.about("the public face");
        Class<?> face = SharedPacketBuffer.class;
        A.holds("the class is public and final", Modifier.isPublic(face.getModifiers()) && Modifier.isFinal(face.getModifiers()));
        Set<String> constants = new TreeSet<>();
        for (Field f : face.getDeclaredFields()) {
            if (!Modifier.isPrivate(f.getModifiers())) {
                A.holds(f + " is a constant", f.toString().startsWith("public static final int "));
                constants.add(f.getName() + "=" + f.getInt(null));
            }
        }
        A.holds("the constants are " + CONSTANTS, constants.equals(words(CONSTANTS)));
        Set<String> methods = new TreeSet<>();
        for (Method m : face.getDeclaredMethods()) {
            if (isPlain(m)) {
                A.holds(m + " is of the object", !Modifier.isStatic(m.getModifiers()));
                methods.add(signature(m));
            }
        }
        A.holds("the methods are " + METHODS + ", not " + methods, methods.equals(words(METHODS)));
        Constructor<?>[] constructors = face.getDeclaredConstructors();
        A.holds("there is one constructor without parameters", constructors.length == 1
            && Modifier.isPublic(constructors[0].getModifiers()) && constructors[0].getParameterCount() == 0);
    }

    private static boolean isPlain(Member member) {
        return !Modifier.isPrivate(member.getModifiers()) && !member.isSynthetic();
    }

    private static Set<String> words(String text) {
        return new TreeSet<>(Set.of(text.split(" ")));
    }

    private static String signature(Method m) {
        StringBuilder s = new StringBuilder(m.getName()).append(':');
        for (Class<?> type : m.getParameterTypes()) {
            s.append(type == int.class ? 'i' : type == boolean.class ? 'b' : '?');
        }
        return s.append(':').append(m.getReturnType().getName()).toString();
    }

    private static void insides() {
        A.about("the classes inside");
        Set<String> publicNames = new TreeSet<>();
        for (Method m : SharedPacketBuffer.class.getDeclaredMethods()) {
            if (isPlain(m)) {
                publicNames.add(m.getName());
            }
        }
        for (Method m : SharedPacketBuffer.class.getDeclaredMethods()) {
            A.holds(m + " does not bear a public name", isPlain(m) || !publicNames.contains(m.getName()));
        }
        Class<?>[] classes = SharedPacketBuffer.class.getDeclaredClasses();
        A.holds("there are at most twelve classes", classes.length <= 11);
        for (Class<?> c : classes) {
            int modifiers = c.getModifiers();
            A.holds(c + " is static and not public", Modifier.isStatic(modifiers) && !Modifier.isPublic(modifiers)
                && !Modifier.isProtected(modifiers));
            A.holds(c + " has at most twenty fields", c.getDeclaredFields().length <= 20);
            for (Method m : c.getDeclaredMethods()) {
                A.holds(m + " does not bear a public name", !publicNames.contains(m.getName()));
                A.holds(m + " has at most seven parameters", m.getParameterCount() <= 7);
            }
        }
    }

    private static void source() throws Exception {
        A.about("the source");
        String[] lines = Files.readString(Path.of("src/main/java/SharedPacketBuffer.java")).split("\n");
        Pattern forbidden = Pattern.compile("(?<![A-Za-z_])(" + FORBIDDEN + ")(?![A-Za-z_])");
        int opened = 0;
        for (int i = 0; i < lines.length; i++) {
            String code = lines[i].trim();
            boolean comment = code.startsWith("//") || code.startsWith("*") || code.startsWith("/*");
            A.holds("line " + (i + 1) + " keeps to the language: " + code, comment || !forbidden.matcher(code).find());
            A.holds("line " + (i + 1) + " has plain signs", lines[i].chars().allMatch(c -> c >= 32 && c < 127));
            if (code.endsWith(") {") && lines[i].matches(" {4}( {4})?[^ ].*")) {
                opened = i;
            }
            if (lines[i].equals("    }") || lines[i].equals("        }")) {
                A.holds("the method at line " + (opened + 1) + " is short", i - opened < 60);
            }
        }
    }
}
