import java.util.List;
import java.util.Random;

/** Many mails, made by a fixed rule, compared call by call with the model. */
public final class ModelTest {
    private static final int MAILS = 6000;
    private static final Check check = new Check();
    private static final String[] TYPES = {
        "text/plain", "text/html", "Text/HTML", "image/png", "multipart/mixed", "multipart/alternative",
        "multipart/digest", "message/rfc822", "MESSAGE/RFC822", "multipart/", "text", "a/b c", "", "/", "\"a;/b\""
    };
    private static final String[] REST = {
        "", "; boundary=a", "; boundary=b", "; boundary=\"a b\"", "; Boundary = \"b\" ", "; boundary=\"a", "; boundary=",
        "; name=n.txt", "; name=\"q\\\"; x=y\"z", ";\n boundary=a", "; x=1;X=2; =3", "; a\"b;c=d\"=e"
    };
    private static final String[] LINES = {
        "", "", "", "--a", "--a", "--a", "--b", "--b", "--b", "--a b", "--a--", "--b--", "--a b--", "--a \t", "--b-- ", "--ab", "--",
        " more", "\tmore; boundary=b", " ", "plain words", "Subject: s", "subject:t", "X:", ":x", "x y:z", "a\rb",
        "Content-Disposition: attachment; filename=\"f\"", "Content-Disposition: inline; FILENAME=g; filename=h",
        "Content-Disposition: Attachment", "Content-Transfer-Encoding: base64", "Content-Transfer-Encoding: 8BIT ; x",
        "Content-Transfer-Encoding:"
    };
    private static final String[] NAMES = {"Subject", "x", "content-TYPE", "boundary", "name", "NAME", "", "a\"b;c=d\"", "x y", "zz"};

    public static void main(String[] args) {
        Random random = new Random(20261115);
        MailParts x = new MailParts();
        for (int i = 0; i < MAILS; i++) {
            // Some objects read many mails: nothing of one may show in the next.
            x = i % 10 == 0 ? new MailParts() : x;
            String mail = i % 5 == 0 ? noise(random) : i % 5 == 1 ? deep(random) : lines(random);
            compare(x, mail.length() > 1500 ? mail.substring(0, 1500) : mail, random);
        }
        check.finish();
    }

    private static String pick(String[] from, Random random) {
        return from[random.nextInt(from.length)];
    }

    private static String typeLine(Random random) {
        return "Content-Type: " + pick(TYPES, random) + pick(REST, random);
    }

    private static String lines(Random random) {
        StringBuilder mail = new StringBuilder();
        if (random.nextInt(3) > 0) {
            mail.append("Content-Type: multipart/").append(random.nextBoolean() ? "mixed" : "alternative").append("; boundary=a\n\n");
        }
        int count = random.nextInt(60);
        String end = random.nextBoolean() ? "\n" : "\r\n";
        for (int i = 0; i < count; i++) {
            mail.append(random.nextInt(4) == 0 ? typeLine(random) : pick(LINES, random)).append(end);
        }
        if (random.nextBoolean() && mail.length() > 0) {
            mail.setLength(mail.length() - 1);
        }
        return mail.toString();
    }

    /** Boundaries in boundaries and messages in messages, and many empty parts. */
    private static String deep(Random random) {
        StringBuilder mail = new StringBuilder();
        int levels = random.nextInt(11);
        for (int i = 0; i < levels; i++) {
            switch (random.nextInt(4)) {
                case 0 -> mail.append("Content-Type: message/rfc822\n\n");
                case 1 -> mail.append("Content-Type: multipart/alternative; boundary=").append(i).append("\n\n--").append(i).append("\n");
                case 2 -> mail.append("Content-Type: multipart/digest; boundary=").append(i).append("\n\n--").append(i).append("\n");
                default -> mail.append("Content-Type: multipart/a; boundary=").append(i).append("\n\n--").append(i).append("\n");
            }
        }
        int parts = random.nextInt(80);
        for (int i = 0; i < parts; i++) {
            mail.append("--").append(random.nextInt(Math.max(levels, 1))).append(random.nextInt(12) == 0 ? "--\n" : "\n");
            if (random.nextInt(4) == 0) {
                mail.append("Content-Type: ").append(pick(TYPES, random)).append("\n\n");
            }
        }
        return mail.toString();
    }

    private static String noise(Random random) {
        String some = "\n\n\r\n: ;=\"\\/-abA \t\u00ff\0";
        StringBuilder mail = new StringBuilder(random.nextBoolean() ? "Content-Type: a/b;" : "");
        int count = random.nextInt(200);
        for (int i = 0; i < count; i++) {
            mail.append(some.charAt(random.nextInt(some.length())));
        }
        return mail.toString();
    }

    private static void compare(MailParts x, String mail, Random random) {
        Check.readAnew(x, mail);
        Model model = new Model(mail);
        String of = " of <" + mail.replace("\r", "\\r").replace("\n", "\\n") + ">";
        int[] counts = {model.parts.size(), model.parts.get(0).texts().size(), model.hanging().size(), model.lost, model.lines.size()};
        for (int what = 0; what < counts.length; what++) {
            check.due("count(" + what + ")" + of, x.count(what), counts[what]);
        }
        check.due("TEXTS" + of, Check.list(x, false), numbers(model.parts.get(0).texts()));
        check.due("HANGING" + of, Check.list(x, true), numbers(model.hanging()));
        for (int entity = -1; entity <= model.parts.size(); entity++) {
            Model.Part part = entity < 0 || entity >= model.parts.size() ? null : model.parts.get(entity);
            for (int what = -1; what <= 10; what++) {
                check.due("entity(" + entity + ", " + what + ")" + of, x.entity(entity, what), part == null ? -1 : part.number(what));
            }
            for (int what = -1; what <= 3; what++) {
                check.due("word(" + entity + ", " + what + ")" + of, Check.word(x, entity, what), part == null ? "NONE" : part.word(what));
            }
            compareTape(x, part, entity, of, random);
        }
    }

    private static void compareTape(MailParts x, Model.Part part, int entity, String of, Random random) {
        String name = pick(NAMES, random);
        String value = part == null ? null : part.fields.get(name.toLowerCase());
        check.due("field " + name + " " + entity + of, Check.fieldOf(x, entity, name), sized(value));
        value = part == null ? null : part.parameters("content-type").get(name.toLowerCase());
        check.due("parameter " + name + " " + entity + of, Check.parameterOf(x, entity, name), sized(value));
        String body = part == null ? "" : part.body();
        int k = random.nextInt(body.length() + 3) - 1;
        boolean there = part != null && k >= 0 && k <= body.length();
        check.due("body(" + entity + ", " + k + ")" + of, Check.bodyOf(x, entity, k), sized(there ? body.substring(k) : null));
    }

    private static String sized(String text) {
        return text == null ? "NONE" : text.length() + ":" + text;
    }

    private static String numbers(List<Model.Part> parts) {
        StringBuilder text = new StringBuilder();
        for (Model.Part part : parts) {
            text.append(text.length() == 0 ? "" : " ").append(part.number);
        }
        return text.toString();
    }
}
