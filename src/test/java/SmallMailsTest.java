/**
 * Every small mail of some pieces, none left out, compared with the model: so that an edge which
 * neither a case nor chance has come to is come to here.
 */
public final class SmallMailsTest {
    private static final Check check = new Check();
    private static final Compare compare = new Compare(check);

    private final String head;
    private final String name;
    private final String[] pieces;
    private final MailParts x = new MailParts();

    private SmallMailsTest(String head, String name, String... pieces) {
        this.head = head;
        this.name = name;
        this.pieces = pieces;
    }

    public static void main(String[] args) {
        lines();
        heads();
        items();
        parameters();
        types();
        boundaries();
        depths();
        texts();
        check.finish();
    }

    /** Every row of so many of the pieces, or fewer, behind the head. */
    private void upTo(int most) {
        add(new StringBuilder(head), most);
    }

    private void add(StringBuilder mail, int more) {
        compare.all(x, mail.toString(), name, 1);
        for (int i = 0; more > 0 && i < pieces.length; i++) {
            int size = mail.length();
            mail.append(pieces[i]);
            add(mail, more - 1);
            mail.setLength(size);
        }
    }

    private static void lines() {
        new SmallMailsTest("", "a", "\r", "\n", "x").upTo(7);
    }

    private static void heads() {
        new SmallMailsTest("", "a", "a", "A", ":", " ", "\n").upTo(5);
        new SmallMailsTest("", "A", "a:1\n", "A:2\n", "b:3\r\n", " 4\n", "\t:\n", "\n", "x\n").upTo(4);
    }

    private static void items() {
        new SmallMailsTest("Content-Type:", "c", "c=", "1", ";", "\"", "\\", " ").upTo(5);
    }

    private static void parameters() {
        new SmallMailsTest("Content-Type:a/b;c=", "c", "1", "=", ";", "\"", "\\", " ").upTo(5);
        new SmallMailsTest("Content-Disposition:;\nContent-Type:a", "name", ";", "name", "NAME", "=", "\t", "\"").upTo(5);
    }

    private static void types() {
        new SmallMailsTest("Content-Type:", "", "/", "A", " ", "\n ", ";").upTo(5);
    }

    private static void boundaries() {
        new SmallMailsTest(Mails.HEAD, "", "--b", "--b--", "-", " ", "\n", "\r\n", "x").upTo(4);
        new SmallMailsTest(Mails.HEAD, "", "--b\n", "--b--\n", "--c\n", "--c-- \n", "Content-Type:multipart/a;boundary=c\n", "\n").upTo(5);
    }

    private static void depths() {
        new SmallMailsTest(Mails.multis(6), "", "Content-Type:message/rfc822\n\n", "Content-Type:multipart/a;boundary=c\n\n", "--c\n", "--3\n", "--5--\n").upTo(5);
    }

    private static void texts() {
        String head = "Content-Type:multipart/alternative;boundary=b\n\n--b\n";
        new SmallMailsTest(head, "", "--b\n", "--c\n", "Content-Type:multipart/a;boundary=c\n\n", "Content-Type:text/html\n",
                "Content-Type:a/b\n", "Content-Disposition:attachment\n", "Content-Type:message/rfc822\n\n").upTo(5);
    }
}
