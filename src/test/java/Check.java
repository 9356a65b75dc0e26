import java.lang.reflect.InvocationTargetException;
import java.lang.reflect.Method;
import java.nio.charset.StandardCharsets;
import java.util.Map;
import java.util.TreeMap;

/** What the tests share: bytes go in as texts, answers come out, and wrong ones are told. */
final class Check {
    private int wrong = 0;
    private int looked = 0;
    private String about = "";

    void due(String call, long got, long want) {
        looked++;
        if (got != want) {
            tell(call + " answered " + got + ", due is " + want);
        }
    }

    void due(String call, String got, String want) {
        looked++;
        if (!got.equals(want)) {
            tell(call + " answered <" + got + ">, due is <" + want + ">");
        }
    }

    private void tell(String message) {
        wrong++;
        System.out.println(about + message);
    }

    /** Runs every method of the class whose name has a _: a case, named after its promise. */
    void runCases(Class<?> type) throws IllegalAccessException {
        Map<String, Method> cases = new TreeMap<>();
        for (Method method : type.getDeclaredMethods()) {
            if (method.getName().contains("_")) {
                cases.put(method.getName(), method);
            }
        }
        for (Method method : cases.values()) {
            about = method.getName() + ": ";
            int before = looked;
            try {
                method.invoke(null);
            } catch (InvocationTargetException thrown) {
                tell("threw " + thrown.getCause());
            }
            if (looked == before) {
                tell("looked at no answer");
            }
        }
        about = "";
        System.out.println(cases.size() + " cases");
    }

    /** Ends the test: with exit code 1 if an answer was wrong. */
    void finish() {
        System.out.println(looked + " answers, " + wrong + " of them wrong");
        if (wrong != 0) {
            System.exit(1);
        }
    }

    /** Feeds a text's bytes; answers what the last end did. */
    static int write(MailParts x, String text) {
        byte[] bytes = text.getBytes(StandardCharsets.ISO_8859_1);
        int answer = MailParts.NONE;
        for (int from = 0; from == 0 || from < bytes.length; from += 20) {
            int n = Math.min(20, bytes.length - from);
            int[] words = new int[5];
            for (int i = 0; i < n; i++) {
                words[i / 4] |= (bytes[from + i] & 255) << 24 - i % 4 * 8;
            }
            x.feed(words[0], words[1], words[2], words[3], words[4]);
            answer = x.end(n);
        }
        return answer;
    }

    static MailParts mail(String text) {
        MailParts x = new MailParts();
        write(x, text);
        x.read();
        return x;
    }

    static void readAnew(MailParts x, String text) {
        clear(x);
        write(x, text);
        x.read();
    }

    static String tape(MailParts x) {
        StringBuilder text = new StringBuilder();
        for (int k = 0; x.byteAt(k) != MailParts.NONE; k++) {
            text.append((char) x.byteAt(k));
        }
        return text.toString();
    }

    /** TYPE (0), CODING (1) or NAME (2), byte by byte. */
    static String word(MailParts x, int entity, int what) {
        int size = x.length(entity, what);
        if (size == MailParts.NONE) {
            return "NONE";
        }
        StringBuilder text = new StringBuilder();
        for (int k = 0; k < size; k++) {
            text.append((char) x.at(entity, what, k));
        }
        return text.toString();
    }

    static String fieldOf(MailParts x, int entity, String name) {
        clear(x);
        write(x, name);
        int size = x.field(entity);
        return size == MailParts.NONE ? "NONE" : size + ":" + tape(x);
    }

    static String parameterOf(MailParts x, int entity, String name) {
        clear(x);
        write(x, name);
        int size = x.parameter(entity);
        return size == MailParts.NONE ? "NONE" : size + ":" + tape(x);
    }

    static String bodyOf(MailParts x, int entity, int k) {
        int size = x.body(entity, k);
        return size == MailParts.NONE ? "NONE" : size + ":" + tape(x);
    }

    /** The numbers of the TEXTS, or of what is HANGING. */
    static String list(MailParts x, boolean hanging) {
        StringBuilder text = new StringBuilder();
        for (int k = 0; x.text(hanging, k) != MailParts.NONE; k++) {
            text.append(k == 0 ? "" : " ").append(x.text(hanging, k));
        }
        return text.toString();
    }

    private static void clear(MailParts x) {
        // A look for a name, found or not, leaves no name on the tape.
        x.field(MailParts.NONE);
    }
}
