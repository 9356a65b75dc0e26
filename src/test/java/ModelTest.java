import java.util.Random;

/** Many mails, made by a fixed rule, compared call by call with the model. */
public final class ModelTest {
    private static final int MAILS = 6000;
    private static final Check check = new Check();
    private static final String[] TYPES = {
        "text/plain", "text/html", "Text/HTML", "image/png", "multipart/mixed", "multipart/alternative",
        "multipart/digest", "message/rfc822", "MESSAGE/RFC822", "multipart/", "text", "a/b c", "", "/", "\"a;/b\""
    };
    private static final String[] REST = {
        "", "; boundary=a", "; boundary=b", "; boundary=\"a b\"", "; Boundary = \"b\" ", "; boundary=\"a", "; boundary=",
        "; name=n.txt", "; name=\"q\\\"; x=y\"z", ";\n boundary=a", "; x=1;X=2; =3", "; a\"b;c=d\"=e"
    };
    private static final String[] LINES = {
        "", "", "", "--a", "--a", "--a", "--b", "--b", "--b", "--a b", "--a--", "--b--", "--a b--", "--a \t", "--b-- ", "--ab", "--",
        " more", "\tmore; boundary=b", " ", "plain words", "Subject: s", "subject:t", "X:", ":x", "x y:z", "a\rb",
        "Content-Disposition: attachment; filename=\"f\"", "Content-Disposition: inline; FILENAME=g; filename=h",
        "Content-Disposition: Attachment", "Content-Transfer-Encoding: base64", "Content-Transfer-Encoding: 8BIT ; x",
        "Content-Transfer-Encoding:"
    };
    private static final String[] NAMES = {"Subject", "x", "content-TYPE", "boundary", "name", "NAME", "", "a\"b;c=d\"", "x y", "zz"};
    private static final Compare compare = new Compare(check);

    public static void main(String[] args) {
        Random random = new Random(20261115);
        MailParts x = new MailParts();
        for (int i = 0; i < MAILS; i++) {
            // Some objects read many mails: nothing of one may show in the next.
            x = i % 10 == 0 ? new MailParts() : x;
            String mail = i % 5 == 0 ? noise(random) : i % 5 == 1 ? deep(random) : lines(random);
            compare.all(x, mail.length() > 1500 ? mail.substring(0, 1500) : mail, pick(NAMES, random), random.nextInt(50));
        }
        check.finish();
    }

    private static String pick(String[] from, Random random) {
        return from[random.nextInt(from.length)];
    }

    private static String typeLine(Random random) {
        return "Content-Type: " + pick(TYPES, random) + pick(REST, random);
    }

    private static String lines(Random random) {
        StringBuilder mail = new StringBuilder();
        if (random.nextInt(3) > 0) {
            mail.append("Content-Type: multipart/").append(random.nextBoolean() ? "mixed" : "alternative").append("; boundary=a\n\n");
        }
        int count = random.nextInt(60);
        String end = random.nextBoolean() ? "\n" : "\r\n";
        for (int i = 0; i < count; i++) {
            mail.append(random.nextInt(4) == 0 ? typeLine(random) : pick(LINES, random)).append(end);
        }
        if (random.nextBoolean() && mail.length() > 0) {
            mail.setLength(mail.length() - 1);
        }
        return mail.toString();
    }

    /** Boundaries in boundaries and messages in messages, and many empty parts. */
    private static String deep(Random random) {
        StringBuilder mail = new StringBuilder();
        int levels = random.nextInt(11);
        for (int i = 0; i < levels; i++) {
            switch (random.nextInt(4)) {
                case 0 -> mail.append("Content-Type: message/rfc822\n\n");
                case 1 -> mail.append("Content-Type: multipart/alternative; boundary=").append(i).append("\n\n--").append(i).append("\n");
                case 2 -> mail.append("Content-Type: multipart/digest; boundary=").append(i).append("\n\n--").append(i).append("\n");
                default -> mail.append("Content-Type: multipart/a; boundary=").append(i).append("\n\n--").append(i).append("\n");
            }
        }
        int parts = random.nextInt(80);
        for (int i = 0; i < parts; i++) {
            mail.append("--").append(random.nextInt(Math.max(levels, 1))).append(random.nextInt(12) == 0 ? "--\n" : "\n");
            if (random.nextInt(4) == 0) {
                mail.append("Content-Type: ").append(pick(TYPES, random)).append("\n\n");
            }
        }
        return mail.toString();
    }

    private static String noise(Random random) {
        String some = "\n\n\r\n: ;=\"\\/-abA \t\u00ff\0";
        StringBuilder mail = new StringBuilder(random.nextBoolean() ? "Content-Type: a/b;" : "");
        int count = random.nextInt(200);
        for (int i = 0; i < count; i++) {
            mail.append(some.charAt(random.nextInt(some.length())));
        }
        return mail.toString();
    }
}
