import java.nio.charset.StandardCharsets;
import java.util.ArrayList;
import java.util.List;
import java.util.Random;

/**
 * Runs of 512 calls on a new object, in any order and with any arguments, made by a fixed rule and
 * compared call by call with the model: what a call refuses, and what it leaves for those behind it.
 */
public final class RunsTest {
    private static final int RUNS = 1500;
    private static final int CALLS = 512;
    private static final int[] FAR = {Integer.MIN_VALUE, Integer.MIN_VALUE + 1, -1500, -60, -2, 58, 59, 60, 61, 70, 71, 1499, 1500, 1501, Integer.MAX_VALUE - 1, Integer.MAX_VALUE};
    private static final String[] NAMES = {"Content-Type", "SUBJECT", "x", "boundary", "Name", "charset", ""};
    private static final String[] MAILS = {
        Mails.multi("mixed", "b", "Subject: s\nX: y\n z\n\nx\r\ny", Mails.leaf("a/b; name=n; charset=\"u\\\"v\""), Mails.enclosed("X:1\n\nz\n")),
        Mails.multi("alternative", "b", Mails.leaf("text/plain"), Mails.multi("mixed", "c", Mails.leaf("text/html"), Mails.leaf("c/d"))),
        "Content-Type: multipart/digest; boundary=b\n\n" + "--b\n".repeat(33),
        Mails.HEAD + "--b\n".repeat(62),
        Mails.enclosures(10, "x\n"),
        "Content-Type: bad; charset=u\nContent-Disposition: Attachment; filename=\"f\nContent-Transfer-Encoding: 7Bit\nno",
        "a:\n".repeat(300) + "\n" + "x".repeat(599),
        "x".repeat(1500),
        ""
    };
    private static final Check check = new Check();

    private final Random random;
    private final MailParts x = new MailParts();
    private final ModelFace model = new ModelFace();
    private final List<String> said = new ArrayList<>();
    private int calls = 0;

    private RunsTest(Random random) {
        this.random = random;
    }

    public static void main(String[] args) {
        Random random = new Random(20261116);
        for (int i = 0; i < RUNS; i++) {
            new RunsTest(random).run();
        }
        check.finish();
    }

    private void run() {
        while (calls < CALLS) {
            int choice = random.nextInt(40);
            if (choice == 0) {
                write(MAILS[random.nextInt(MAILS.length)]);
                if (random.nextInt(8) > 0) {
                    due("read()", x.read(), model.read());
                }
            } else if (choice < 4) {
                write(NAMES[random.nextInt(NAMES.length)]);
                lookUp();
            } else {
                call(choice % 13);
            }
        }
    }

    private void due(String call, int got, int want) {
        calls++;
        said.add(call);
        if (got != want) {
            check.due(said.subList(Math.max(0, said.size() - 12), said.size()) + "", got, want);
        } else {
            check.due(call, got, want);
        }
    }

    private void feed(int a, int b, int c, int d, int e) {
        calls++;
        said.add("feed(" + a + ", " + b + ", " + c + ", " + d + ", " + e + ")");
        x.feed(a, b, c, d, e);
        model.feed(a, b, c, d, e);
    }

    private void end(int n) {
        due("end(" + n + ")", x.end(n), model.end(n));
    }

    private void write(String text) {
        byte[] bytes = text.getBytes(StandardCharsets.ISO_8859_1);
        for (int from = 0; from < bytes.length; from += 20) {
            int n = Math.min(20, bytes.length - from);
            int[] words = new int[5];
            for (int i = 0; i < n; i++) {
                words[i / 4] |= (bytes[from + i] & 255) << 24 - i % 4 * 8;
            }
            feed(words[0], words[1], words[2], words[3], words[4]);
            end(n);
        }
    }

    private void lookUp() {
        int entity = number(5);
        if (random.nextBoolean()) {
            due("field(" + entity + ")", x.field(entity), model.field(entity));
        } else {
            due("parameter(" + entity + ")", x.parameter(entity), model.parameter(entity));
        }
    }

    /** Mostly a number of that row, and its neighbours; at times one that is far off. */
    private int number(int most) {
        return random.nextInt(6) == 0 ? FAR[random.nextInt(FAR.length)] : random.nextInt(most + 2) - 1;
    }

    private void call(int which) {
        int entity = number(6);
        int k = number(12);
        int what = number(10);
        int few = number(4);
        boolean hanging = random.nextBoolean();
        switch (which) {
            case 0 -> due("entity(" + entity + ", " + what + ")", x.entity(entity, what), model.entity(entity, what));
            case 1 -> due("length(" + entity + ", " + few + ")", x.length(entity, few), model.length(entity, few));
            case 2 -> due("at(" + entity + ", " + few + ", " + k + ")", x.at(entity, few, k), model.at(entity, few, k));
            case 3 -> lookUp();
            case 4, 5 -> due("byteAt(" + k + ")", x.byteAt(k), model.byteAt(k));
            case 6, 7 -> due("text(" + hanging + ", " + few + ")", x.text(hanging, few), model.text(hanging, few));
            case 8, 9 -> due("body(" + entity + ", " + k + ")", x.body(entity, k), model.body(entity, k));
            case 10 -> due("count(" + few + ")", x.count(few), model.count(few));
            case 11 -> end(number(20));
            default -> change();
        }
    }

    private void change() {
        if (random.nextInt(10) == 0) {
            due("read()", x.read(), model.read());
        } else {
            feed(random.nextInt(), random.nextInt(), random.nextInt(), number(1), number(1));
        }
    }
}
