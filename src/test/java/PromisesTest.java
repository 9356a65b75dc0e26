/** Each promise of the document: ordinary inputs, the edges that it names, and wrong inputs. */
public final class PromisesTest {
    private static final int NONE = MailParts.NONE;
    private static final Check check = new Check();

    public static void main(String[] args) {
        newObject();
        feedAndEnd();
        read();
        linesAndHeads();
        entityNumbers();
        kinds();
        partsOfMulti();
        depth();
        room();
        words();
        fields();
        parameters();
        byteAt();
        texts();
        alternatives();
        hanging();
        bodies();
        counts();
        check.finish();
    }

    private static String multi(String kind, String boundary, String... parts) {
        StringBuilder text = new StringBuilder("Content-Type: multipart/" + kind + "; boundary=\"" + boundary + "\"\n\n");
        for (String part : parts) {
            text.append("--").append(boundary).append("\n").append(part).append("\n");
        }
        return text.append("--").append(boundary).append("--").toString();
    }

    private static String leaf(String type) {
        return "Content-Type: " + type + "\n\nx";
    }

    private static void entity(MailParts x, int entity, int... due) {
        for (int what = 0; what < due.length; what++) {
            check.due("entity(" + entity + ", " + what + ")", x.entity(entity, what), due[what]);
        }
    }

    // Promise 1

    private static void newObject() {
        check.due("NONE", NONE, -1);
        MailParts x = new MailParts();
        check.due("new: byteAt(0)", x.byteAt(0), NONE);
        for (int what = 0; what < 5; what++) {
            check.due("new: count(" + what + ")", x.count(what), 0);
        }
        for (int what = -1; what <= 10; what++) {
            check.due("new: entity(0, " + what + ")", x.entity(0, what), NONE);
        }
        check.due("new: length(0, 0)", x.length(0, 0), NONE);
        check.due("new: at(0, 0, 0)", x.at(0, 0, 0), NONE);
        check.due("new: text(false, 0)", x.text(false, 0), NONE);
        check.due("new: text(true, 0)", x.text(true, 0), NONE);
        check.due("new: body(0, 0)", x.body(0, 0), NONE);
        check.due("new: field(0)", x.field(0), NONE);
        check.due("new: parameter(0)", x.parameter(0), NONE);
        check.due("new: end(0)", x.end(0), 0);
    }

    // Promises 2 and 3

    private static void feedAndEnd() {
        MailParts x = new MailParts();
        check.due("end(3) with nothing fed", x.end(3), 3);
        check.due("its bytes", Check.tape(x), "\0\0\0");
        x.feed(0x01020304, 0x80FF7F00, -1, 0x41424344, 0x45464748);
        check.due("end(21)", x.end(21), NONE);
        check.due("end(-1)", x.end(-1), NONE);
        check.due("end(MIN)", x.end(Integer.MIN_VALUE), NONE);
        check.due("end(MAX)", x.end(Integer.MAX_VALUE), NONE);
        check.due("end(20) behind NONE", x.end(20), 23);
        check.due("bytes, the highest first", Check.tape(x),
                "\0\0\0\1\2\3\4\u0080\u00ff\u007f\0\u00ff\u00ff\u00ff\u00ffABCDEFGH");
        check.due("end(2) again", x.end(2), 25);
        check.due("0 behind an end", x.byteAt(23), 0);
        x.feed(0x61616161, 0, 0, 0, 0);
        check.due("end(0)", x.end(0), 25);
        check.due("end(1) behind end(0)", x.end(1), 26);
        check.due("0 behind end(0)", x.byteAt(25), 0);
        x.feed(0x61616161, 0x61616161, 0x61616161, 0x61616161, 0x61616161);
        x.feed(0x62000000, 0, 0, 0, 0);
        check.due("the last feed counts", x.end(2), 28);
        check.due("its first", x.byteAt(26), 'b');
        check.due("its second", x.byteAt(27), 0);

        x = new MailParts();
        for (int i = 1; i <= 74; i++) {
            check.due("end(20)", x.end(20), 20 * i);
        }
        check.due("end(19) to 1499", x.end(19), 1499);
        x.feed(0x61620000, 0, 0, 0, 0);
        check.due("end(2) beyond 1500", x.end(2), NONE);
        check.due("nothing came", x.byteAt(1499), NONE);
        check.due("end(1) to 1500", x.end(1), 1500);
        check.due("the byte that stayed ready", x.byteAt(1499), 'a');
        check.due("end(1) at 1500", x.end(1), NONE);
        check.due("end(0) at 1500", x.end(0), 1500);
        check.due("read of 1500", x.read(), 1);
        check.due("empty behind read", x.end(0), 0);
    }

    // Promise 4

    private static void read() {
        MailParts x = new MailParts();
        check.due("read of nothing", x.read(), 1);
        entity(x, 0, 0, NONE, 0, 0, 0, 0, 0, 0, 0, 0);
        check.due("its TEXTS", Check.list(x, false), "0");
        check.due("its body", Check.bodyOf(x, 0, 0), "0:");
        Check.write(x, multi("mixed", "b", "\nx", "\ny"));
        check.due("read of two parts", x.read(), 3);
        check.due("the tape is empty", x.byteAt(0), NONE);
        Check.write(x, "A: b\n\nx");
        check.due("the old MAIL until read", x.count(0), 3);
        check.due("read anew", x.read(), 1);
        check.due("the old ENTITIES are gone", x.entity(1, 0), NONE);
        check.due("read with no tape", x.read(), 1);
        check.due("an empty MAIL has no lines", x.count(4), 0);
        again();
    }

    /** Nothing of an earlier MAIL is left, whatever that was. */
    private static void again() {
        MailParts x = Check.mail(multi("alternative", "long", leaf("text/html"), leaf("text/plain"), leaf("a/b")));
        check.due("FIELDS at first", x.entity(1, 9), 1);
        check.due("FIELDS asked again", x.entity(1, 9), 1);
        check.due("TEXTS at first", Check.list(x, false), "2");
        check.due("HANGING at first", Check.list(x, true), "3");
        Check.write(x, multi("alternative", "b", leaf("c/d"), "Content-Disposition: attachment\n\nx"));
        check.due("read again", x.read(), 3);
        check.due("parts again", x.entity(0, 8), 2);
        check.due("TEXTS again", Check.list(x, false), "");
        check.due("HANGING again", Check.list(x, true), "1 2");
        Check.write(x, multi("mixed", "c", "A: b\n" + leaf("text/html")));
        check.due("read once more", x.read(), 2);
        check.due("parts once more", x.entity(0, 8), 1);
        check.due("TEXTS once more", Check.list(x, false), "1");
        check.due("HANGING once more", Check.list(x, true), "");
        check.due("not HUNG any more", x.entity(1, 3), 0);
        check.due("FIELDS once more", x.entity(1, 9), 2);
    }

    // Terms: LINES and HEADS, as promise 5 tells them

    private static void head(String text, int head, int body, int bodyAt, int fields) {
        MailParts x = Check.mail(text);
        String call = "entity(0, .) of <" + text + ">";
        check.due(call + " HEAD", x.entity(0, 6), head);
        check.due(call + " BODY", x.entity(0, 7), body);
        check.due(call + " BODY's byte", x.entity(0, 5), bodyAt);
        check.due(call + " FIELDS", x.entity(0, 9), fields);
    }

    private static void linesAndHeads() {
        head("", 0, 0, 0, 0);
        head("\n", 0, 0, 1, 0);
        head("\n\n", 0, 1, 1, 0);
        head("\r\n", 0, 0, 2, 0);
        head("\r", 0, 1, 0, 0);
        head("\r\r\nx", 0, 2, 0, 0);
        head("A:b", 1, 0, 3, 1);
        head("A:b\n", 1, 0, 4, 1);
        head("A:b\n\n", 1, 0, 5, 1);
        head("A:b\r\n\r\nx", 1, 1, 7, 1);
        head("A:b\nx y\n\nz", 1, 3, 4, 1);
        head("A:b\n c\n\td\nE:\n\nz", 4, 1, 14, 2);
        head("A:b\n \n\nz", 2, 1, 7, 1);
        head(" A:b\nC:d", 0, 2, 0, 0);
        head("\tA:b", 0, 1, 0, 0);
        head(":b\n", 0, 1, 0, 0);
        head("A b:c\n", 0, 1, 0, 0);
        head("A:b\nC :d\n", 1, 1, 4, 1);
        head("A_:c\n", 0, 1, 0, 0);
        head("-09azAZ:c\n", 1, 0, 10, 1);
        head("a/:\n", 0, 1, 0, 0);
        head("a@:\n", 0, 1, 0, 0);
        head("a[:\n", 0, 1, 0, 0);
        head("a`:\n", 0, 1, 0, 0);
        head("a{:\n", 0, 1, 0, 0);
        head("\u00e9:\n", 0, 1, 0, 0);
        head("A\n", 0, 1, 0, 0);
        head("a:1\nA:2\nb:3\na:4\nB:5\nab:6", 6, 0, 24, 3);
        head("\nA:b\n", 0, 1, 1, 0);
    }

    // Promise 5

    private static void entityNumbers() {
        String text = "Content-Type: multipart/mixed; boundary=b\n\n--b\nA: 1\nB: 2\n c\n\nx\ny\n--b\n--b\n"
                + "Content-Disposition: attachment\n--b--\n";
        MailParts x = Check.mail(text);
        check.due("count(0)", x.count(0), 4);
        entity(x, 0, 1, NONE, 0, 0, 0, 43, 1, 11, 3, 1, NONE);
        entity(x, 1, 0, 0, 1, 0, 47, 61, 3, 2, 0, 2, NONE);
        // No lines: they would begin with the next boundary; no BODY: the MAIL's length.
        entity(x, 2, 0, 0, 1, 0, 69, text.length(), 0, 0, 0, 0, NONE);
        entity(x, 3, 0, 0, 1, 1, 73, text.length(), 1, 0, 0, 1, NONE);
        check.due("entity(4, 0)", x.entity(4, 0), NONE);
        check.due("entity(-1, 0)", x.entity(-1, 0), NONE);
        check.due("entity(MIN, 0)", x.entity(Integer.MIN_VALUE, 0), NONE);
        check.due("entity(MAX, 0)", x.entity(Integer.MAX_VALUE, 0), NONE);
        check.due("entity(0, -1)", x.entity(0, -1), NONE);
        check.due("entity(0, MAX)", x.entity(0, Integer.MAX_VALUE), NONE);
        check.due("entity(0, MIN)", x.entity(0, Integer.MIN_VALUE), NONE);

        x = Check.mail(multi("mixed", "b", "Content-Type: message/rfc822", "\nz"));
        check.due("ENTITIES", x.count(0), 4);
        // The enclosed one has no lines; they would begin where the encloser's BODY would.
        entity(x, 2, 0, 1, 2, 0, 78, 90, 0, 0, 0, 0);
        check.due("what an ENCLOSED one encloses is in it", x.entity(1, 8), 1);
        check.due("the next part", x.entity(3, 1), 0);
    }

    private static void kind(String text, int due) {
        check.due("KIND of <" + text + ">", Check.mail(text).entity(0, 0), due);
    }

    private static void kinds() {
        kind("Content-Type: multipart/mixed; boundary=b\n", 1);
        kind("Content-Type: MultiPart/x; BOUNDARY=b\n", 1);
        kind("Content-Type: multipart/mixed\n", 0);
        kind("Content-Type: multipart/mixed; boundary=\n", 0);
        kind("Content-Type: multipart/mixed; boundary=\"\"\n", 0);
        kind("Content-Type: multipart/mixed; boundary=" + "b".repeat(70) + "\n", 1);
        kind("Content-Type: multipart/mixed; boundary=" + "b".repeat(71) + "\n", 0);
        kind("Content-Type: multipart/mixed; boundary=\"" + "\\b".repeat(70) + "\"\n", 1);
        kind("Content-Type: multipart/; boundary=b\n", 0);
        kind("Content-Type: multipart; boundary=b\n", 0);
        kind("Content-Type: xmultipart/a; boundary=b\n", 0);
        kind("Content-Type: xultipart/a; boundary=b\n", 0);
        kind("Content-Type: xessage/rfc822\n", 0);
        kind("Content-Type: boundary=b; multipart/mixed\n", 0);
        kind("Content-Type: multipart/mixed; boundary=b\nContent-Transfer-Encoding: base64\n", 1);
        kind("Content-Type: text/plain\nContent-Type: multipart/mixed; boundary=b\n", 0);
        String message = "Content-Type: message/rfc822; x=y\nContent-Transfer-Encoding: ";
        kind("Content-Type: MESSAGE/rfc822\n", 2);
        kind(message + "\n", 2);
        kind(message + "7bit\n", 2);
        kind(message + "8BIT\n", 2);
        kind(message + " Binary ; z\n", 2);
        kind(message + "base64\n", 0);
        kind(message + "quoted-printable\n", 0);
        kind(message + "7 bit\n", 0);
        kind("Content-Type: message/rfc8222\n", 0);
        kind("Content-Type: message/rfc82\n", 0);
    }

    private static void starts(String call, String text, int... due) {
        MailParts x = Check.mail(text);
        check.due(call + ": parts", x.entity(0, 8), due.length);
        check.due(call + ": ENTITIES", x.count(0), due.length + 1);
        for (int i = 0; i < due.length; i++) {
            check.due(call + ": begin of " + (i + 1), x.entity(i + 1, 4), due[i]);
        }
    }

    private static void partsOfMulti() {
        String head = "Content-Type: multipart/a; boundary=b\n\n";
        int at = head.length();
        starts("no boundary", head + "x\ny");
        starts("no dashes", head + "-xb\nx-b\n--bx-\n--b-x\n--b\n", at + 24);
        starts("one at the end", head + "--b", at + 3);
        starts("one without an end", head + "--b\n\nx", at + 4);
        starts("two", head + "ahead\n--b\nx\n--b\ny\n--b--\nbehind\n--b\nz", at + 10, at + 16);
        starts("BLANKS", head + "--b \t \nx\n--b-- \t\n--b\n", at + 7);
        starts("not BLANKS", head + "--bc\n--b x\n --b\n-b\n--\n-\n\n--B\n--b-\n--b- -\n--b---\n--b\n\nx", at + 52);
        starts("closed ahead of the first", head + "--b--\n--b\nx\n");
        starts("13", head + "--b\r\nx\r\n--b--\r\n--b\r\n", at + 5);
        starts("13 without 10", head + "--b\nx\n--b\r", at + 4);
        starts("a boundary of --", "Content-Type: multipart/a; boundary=--\n\n----\n\n------\n----", 45);
        starts("a BLANK in it", "Content-Type: multipart/a; boundary=\"b \"\n\n--b\n--b \n--b --", 51);
        starts("a boundary in the HEAD", "Content-Type: multipart/a; boundary=b\n--b\n--b--", 42);

        // A boundary that would be a FIELD is none of the part ahead of it.
        MailParts y = Check.mail("Content-Type: multipart/a; boundary=\"b:c\"\n\n--b:c\nA:1\n--b:c\n\n--b:c--");
        entity(y, 1, 0, 0, 1, 0, 49, 67, 1, 0, 0, 1);
        check.due("no FIELD", Check.fieldOf(y, 1, "--b"), "NONE");

        // The outer boundary ends what is in a part, whatever that has begun itself.
        MailParts x = Check.mail(head + "--b\nContent-Type: multipart/a; boundary=c\n\n--c\n\n1\n--b\n--c\n--b--\n--c");
        check.due("outer first", x.count(0), 4);
        check.due("in the inner one", x.entity(2, 1), 1);
        check.due("its lines", x.entity(2, 7), 1);
        check.due("the next of the outer", x.entity(3, 1), 0);
        check.due("--c is its BODY", x.entity(3, 7), 1);

        // The same boundary in both: all are the outer one's.
        x = Check.mail(head + "--b\nContent-Type: multipart/a; boundary=b\n\n--b\n\n--b--");
        check.due("same boundary", x.count(0), 3);
        check.due("no part in the inner", x.entity(1, 8), 0);
        check.due("parts of the outer", x.entity(0, 8), 2);
    }

    private static void depth() {
        StringBuilder text = new StringBuilder();
        for (int i = 0; i < 10; i++) {
            text.append("Content-Type: message/rfc822\n\n");
        }
        MailParts x = Check.mail(text + "x");
        check.due("ENTITIES in one another", x.count(0), 9);
        for (int i = 0; i < 9; i++) {
            check.due("depth of " + i, x.entity(i, 2), i);
            check.due("KIND of " + i, x.entity(i, 0), i < 8 ? 2 : 0);
        }
        check.due("nothing is lost for depth", x.count(3), 0);
        check.due("too deep: it hangs", Check.list(x, true), "8");
        check.due("too deep: no TEXT", Check.list(x, false), "");

        text = new StringBuilder();
        for (int i = 0; i < 10; i++) {
            text.append("Content-Type: multipart/a; boundary=").append(i).append("\n\n--").append(i).append("\n");
        }
        x = Check.mail(text.toString());
        check.due("MULTI in one another", x.count(0), 9);
        check.due("a MULTI in 7", x.entity(7, 0), 1);
        check.due("too deep for a MULTI", x.entity(8, 0), 0);
    }

    private static void room() {
        String head = "Content-Type: multipart/a; boundary=b\n\n";
        MailParts x = Check.mail(head + "--b\n".repeat(59));
        check.due("60 ENTITIES", x.count(0), 60);
        check.due("none lost", x.count(3), 0);
        x = Check.mail(head + "--b\n".repeat(70) + "--b--");
        check.due("no more than 60", x.count(0), 60);
        check.due("11 lost", x.count(3), 11);
        check.due("parts", x.entity(0, 8), 59);
        check.due("the last one", x.entity(59, 1), 0);
        check.due("none behind", x.entity(60, 0), NONE);
        check.due("TEXTS", x.count(1), 59);
        check.due("the last TEXT", x.text(false, 58), 59);

        // As they begin: what is in a part comes ahead of the next part, also for the room.
        x = Check.mail(head + "--b\nContent-Type: multipart/a; boundary=c\n\n" + "--c\n".repeat(60) + "--b\n--b\n");
        check.due("60 again", x.count(0), 60);
        check.due("2 of the inner and 2 of the outer lost", x.count(3), 4);
        check.due("parts of the outer", x.entity(0, 8), 1);
        check.due("parts of the inner", x.entity(1, 8), 58);

        // Each part of a digest encloses one: the 60th ENTITY has no room for its own.
        x = Check.mail("Content-Type: multipart/digest; boundary=b\n\n" + "--b\n".repeat(32));
        check.due("60 of a digest", x.count(0), 60);
        check.due("the last is ENCLOSED", x.entity(59, 0), 2);
        check.due("but nothing is in it", x.entity(59, 8), 0);
        check.due("lost: what it encloses, and two parts", x.count(3), 3);
        check.due("TEXTS of those that are", x.count(1), 29);
        x.read();
        check.due("lost begins anew", x.count(3), 0);
    }

    // Promises 6 and 7

    private static void word(String text, int what, String due) {
        check.due("word " + what + " of <" + text + ">", Check.word(Check.mail(text), 0, what), due);
    }

    private static void words() {
        word("", 0, "text/plain");
        word("Content-Type: Text/HTML; charset=X\n", 0, "text/html");
        word("content-TYPE:a/b\n", 0, "a/b");
        word("Content-Type:\n\t A/B \n ;c\n", 0, "a/b");
        word("Content-Type: a/\n", 0, "text/plain");
        word("Content-Type: /a\n", 0, "text/plain");
        word("Content-Type: /\n", 0, "text/plain");
        word("Content-Type: ab\n", 0, "text/plain");
        word("Content-Type: a/b c\n", 0, "text/plain");
        word("Content-Type: a /b\n", 0, "text/plain");
        word("Content-Type: a/b\tc\n", 0, "text/plain");
        word("Content-Type: ; a/b\n", 0, "text/plain");
        word("Content-Type:;a/b\n", 0, "text/plain");
        word("Content-Type:A/Z;\n", 0, "a/z");
        word("Content-Type: /a/b\n", 0, "/a/b");
        word("Content-Type: a/b/\n", 0, "a/b/");
        word("Content-Type: \"a;/B\";c\n", 0, "\"a;/b\"");
        word("Content-Type: \"a\\\";/B;c\n", 0, "\"a\\\";/b;c");
        word("Content-Type: a\\;/b\n", 0, "text/plain");
        word("Content-Type: x\nContent-Type: a/b\n", 0, "text/plain");
        word("Content-Type: \u00c9/\u00c9@[\n", 0, "\u00c9/\u00c9@[");
        word("Content-Type: " + "a/" + "b".repeat(1400) + "\n", 0, "a/" + "b".repeat(1400));
        word("", 1, "");
        word("Content-Transfer-Encoding: Base64 ; x\n", 1, "base64");
        word("Content-Transfer-Encoding: a b=C\n", 1, "a b=c");
        word("", 2, "");
        word("Content-Disposition: x; FileName=\"A b.C\"\n", 2, "A b.C");
        word("Content-Disposition: filename=A\n", 2, "");
        word("Content-Disposition: x; filename=\nContent-Type: a/b; name=c\n", 2, "");
        word("Content-Disposition: x; file=y\nContent-Type: a/b; name=c\n", 2, "c");
        word("Content-Type: bad; Name=c\n", 2, "c");
        word("Content-Type: a/b; filename=c\nContent-Disposition: x; name=d\n", 2, "");

        MailParts x = Check.mail(multi("digest", "b", "\nA: b\n", leaf("bad"), leaf("text/x")));
        check.due("in a digest", Check.word(x, 1, 0), "message/rfc822");
        check.due("in what that encloses", Check.word(x, 2, 0), "text/plain");
        check.due("in a digest, a bad one", Check.word(x, 3, 0), "message/rfc822");
        check.due("in a digest, a good one", Check.word(x, 5, 0), "text/x");
        check.due("length(0, 3)", x.length(0, 3), NONE);
        check.due("length(0, -1)", x.length(0, -1), NONE);
        check.due("length(6, 0)", x.length(6, 0), NONE);
        check.due("length(-1, 0)", x.length(-1, 0), NONE);
        check.due("at(1, 0, 0)", x.at(1, 0, 0), 'm');
        check.due("at(1, 0, 13)", x.at(1, 0, 13), '2');
        check.due("at(1, 0, 14)", x.at(1, 0, 14), NONE);
        check.due("at(1, 0, -1)", x.at(1, 0, -1), NONE);
        check.due("at(1, 0, MAX)", x.at(1, 0, Integer.MAX_VALUE), NONE);
        check.due("at(1, 1, 0)", x.at(1, 1, 0), NONE);
        check.due("at(1, 2, 0)", x.at(1, 2, 0), NONE);
        check.due("at(1, 3, 0)", x.at(1, 3, 0), NONE);
        check.due("at(6, 0, 0)", x.at(6, 0, 0), NONE);
        check.due("at(-1, 0, 0)", x.at(-1, 0, 0), NONE);
        check.due("high bytes", Check.mail("Content-Type: a/\u00ff\n").at(0, 0, 2), 255);
    }

    // Promise 8

    private static void fields() {
        MailParts x = Check.mail("A: 1 \nbC:2\n  x\n\ty \r\nA:3\n z\nD:\n\nE:5\n");
        check.due("as it is", Check.fieldOf(x, 0, "A"), "3: 1 ");
        check.due("great or small", Check.fieldOf(x, 0, "a"), "3: 1 ");
        check.due("with lines behind", Check.fieldOf(x, 0, "Bc"), "7:2  x\ty ");
        check.due("empty", Check.fieldOf(x, 0, "d"), "0:");
        check.due("in the BODY", Check.fieldOf(x, 0, "E"), "NONE");
        check.due("a beginning", Check.fieldOf(x, 0, "b"), "NONE");
        check.due("longer", Check.fieldOf(x, 0, "bCd"), "NONE");
        check.due("no name", Check.fieldOf(x, 0, ""), "NONE");
        check.due("with :", Check.fieldOf(x, 0, "A:"), "NONE");
        check.due("a BLANK", Check.fieldOf(x, 0, " "), "NONE");
        Check.write(x, "q");
        check.due("none such", x.field(0), NONE);
        check.due("the tape is empty then", x.byteAt(0), NONE);
        Check.write(x, "A");
        check.due("no ENTITY", x.field(1), NONE);
        check.due("empty then too", x.byteAt(0), NONE);
        check.due("no ENTITY", x.field(-1), NONE);
        check.due("a colon in a value", Check.fieldOf(Check.mail("a:b:c\n"), 0, "a:b"), "NONE");
        String longest = "x".repeat(1498);
        check.due("a long value", Check.fieldOf(Check.mail("a:" + longest), 0, "a"), "1498:" + longest);
        x = Check.mail(multi("mixed", "b", "A: in\n"));
        check.due("of a part", Check.fieldOf(x, 1, "A"), "3: in");
        check.due("not of the whole", Check.fieldOf(x, 0, "A"), "NONE");
        check.due("a tape that goes on", Check.fieldOf(x, 1, "a") + "|" + Check.write(x, "xy"), "3: in|5");
    }

    // Promise 9

    private static void parameter(String value, String name, String due) {
        MailParts x = Check.mail("Content-Type: " + value + "\n");
        check.due("parameter " + name + " of <" + value + ">", Check.parameterOf(x, 0, name), due);
    }

    private static void parameters() {
        parameter("a/b; C=D", "c", "1:D");
        parameter("a/b; c=D", "C", "1:D");
        parameter("c=1", "c", "NONE");
        parameter("c=1;c=2;c=3", "c", "1:2");
        parameter(";c=1", "c", "1:1");
        parameter("a;c", "c", "NONE");
        parameter("a;c=", "c", "0:");
        parameter("a;;c=1;", "c", "1:1");
        parameter("a; \tc\t = \t1 2 \t;d", "c", "3:1 2");
        parameter("a; c=\" 1; 2 \" ; d=3", "c", "6: 1; 2 ");
        parameter("a; c=\" 1; 2 \" ; d=3", "d", "1:3");
        parameter("a; c=\"1\"2; d=3", "c", "1:1");
        parameter("a; c=\"1\\\"2\\\\\\3\"; d=3", "c", "5:1\"2\\3");
        parameter("a; c=\"1; d=\\3", "c", "8:\"1; d=\\3");
        parameter("a; c=\"1; d=\\3", "d", "NONE");
        parameter("a; c=\"1\\\"", "c", "4:\"1\\\"");
        parameter("a; c=\"", "c", "1:\"");
        parameter("a; c=\"\"", "c", "0:");
        parameter("a; c=\"\\\\\"", "c", "1:\\");
        parameter("a; c=1\"2;3\"4;5", "c", "7:1\"2;3\"4");
        parameter("a; c=1\\;d=2", "c", "2:1\\");
        parameter("a; c=1\\;d=2", "d", "1:2");
        parameter("a; c=1=2", "c", "3:1=2");
        parameter("a; \"c=d\"=e", "\"C=D\"", "1:e");
        parameter("a; \"c=d\"=e", "c", "NONE");
        parameter("a; \"c=d", "c", "NONE");
        parameter("a; c d=e", "c d", "1:e");
        parameter("a; =e", "", "1:e");
        parameter("a; e", "", "NONE");
        parameter("\"a;c=1\";c=2", "c", "1:2");
        parameter("a;\n c=1\n 2", "c", "3:1 2");
        parameter("a; c=1", "a", "NONE");
        MailParts x = Check.mail("Content-Type:;c=1;d=2\n");
        check.due("an empty first ITEM", Check.parameterOf(x, 0, "c"), "1:1");
        x = Check.mail("Content-Disposition: a; c=1\n");
        check.due("of another FIELD", Check.parameterOf(x, 0, "c"), "NONE");
        x = Check.mail("Content-Type: a; c=1\n\n");
        Check.write(x, "d");
        check.due("none such", x.parameter(0), NONE);
        check.due("the tape is empty then", x.byteAt(0), NONE);
        Check.write(x, "c");
        check.due("no ENTITY", x.parameter(1), NONE);
        check.due("empty then too", x.byteAt(0), NONE);
        check.due("no ENTITY", x.parameter(-1), NONE);
    }

    // Promise 10

    private static void byteAt() {
        MailParts x = new MailParts();
        Check.write(x, "ab\u00ff");
        check.due("byteAt(0)", x.byteAt(0), 'a');
        check.due("byteAt(2)", x.byteAt(2), 255);
        check.due("byteAt(3)", x.byteAt(3), NONE);
        check.due("byteAt(-1)", x.byteAt(-1), NONE);
        check.due("byteAt(MAX)", x.byteAt(Integer.MAX_VALUE), NONE);
        check.due("byteAt(MIN)", x.byteAt(Integer.MIN_VALUE), NONE);
    }

    // Promise 11

    private static void lists(String call, String text, String texts, String hanging) {
        MailParts x = Check.mail(text);
        check.due(call + ": TEXTS", Check.list(x, false), texts);
        check.due(call + ": HANGING", Check.list(x, true), hanging);
        check.due(call + ": count(1)", x.count(1), texts.isEmpty() ? 0 : texts.split(" ").length);
        check.due(call + ": count(2)", x.count(2), hanging.isEmpty() ? 0 : hanging.split(" ").length);
    }

    private static void texts() {
        lists("plain", "x", "0", "");
        lists("image", leaf("image/png"), "", "0");
        lists("text that hangs", "Content-Disposition: ATTACHMENT; x\n", "", "0");
        lists("inline", "Content-Disposition: inline\n", "0", "");
        lists("all of a mixed one", multi("mixed", "b", leaf("text/html"), leaf("a/b"), leaf("text/x")), "1 3", "2");
        lists("enclosed", "Content-Type: message/rfc822\n\n" + leaf("text/x"), "1", "");
        lists("a hung one encloses", "Content-Disposition: attachment\nContent-Type: message/rfc822\n\nx", "1", "");
        lists("a hung MULTI", "Content-Disposition: attachment\n" + multi("mixed", "b", leaf("text/x")), "1", "");
        lists("not to be enclosed", "Content-Transfer-Encoding: base64\nContent-Type: message/rfc822\n\nx", "", "0");
        lists("a MULTI without parts", "Content-Type: multipart/mixed; boundary=b\n\n", "", "");
        lists("begins otherwise", leaf("xext/a"), "", "0");
        lists("no MULTI", "Content-Type: multipart/mixed\n\n", "", "0");
        MailParts x = Check.mail("x");
        check.due("text(false, -1)", x.text(false, -1), NONE);
        check.due("text(false, 1)", x.text(false, 1), NONE);
        check.due("text(false, MAX)", x.text(false, Integer.MAX_VALUE), NONE);
        check.due("text(true, 0)", x.text(true, 0), NONE);
        check.due("text(true, MIN)", x.text(true, Integer.MIN_VALUE), NONE);
    }

    private static void alternatives() {
        String plain = leaf("text/plain");
        String html = leaf("text/html");
        String image = leaf("image/png");
        lists("plain, html", multi("alternative", "b", plain, html), "1", "");
        lists("html, plain", multi("alternative", "b", html, plain), "2", "");
        lists("plain, plain, html", multi("alternative", "b", plain, plain, html), "2", "");
        lists("html, html", multi("alternative", "b", html, html), "2", "");
        lists("html, image", multi("alternative", "b", html, image), "1", "2");
        lists("plain, image", multi("ALTERNATIVE", "b", plain, image), "1", "2");
        lists("image", multi("alternative", "b", image), "", "1");
        lists("nothing", multi("alternative", "b"), "", "");
        lists("plain that hangs", multi("alternative", "b", html, "Content-Disposition: attachment\n"), "1", "2");
        lists("html beside plain", multi("alternative", "b", plain, multi("mixed", "c", plain, html)), "1", "");
        lists("two plain ones", multi("alternative", "b", plain, multi("mixed", "c", plain, plain)), "3 4", "");
        lists("only html beside plain", multi("alternative", "b", html, multi("mixed", "c", plain, html)), "3 4", "");
        lists("the inner one has plain", multi("alternative", "b", plain, multi("alternative", "c", html, plain)), "4", "");
        lists("the inner one has html alone", multi("alternative", "b", plain, multi("alternative", "c", html)), "1", "");
        lists("enclosed html", multi("alternative", "b", plain, "Content-Type: message/rfc822\n\n" + html), "1", "");
        lists("enclosed plain", multi("alternative", "b", plain, "Content-Type: message/rfc822\n\n" + plain), "3", "");
        lists("in a mixed one", multi("mixed", "b", multi("alternative", "c", plain, html), html), "2 4", "");
        lists("html in a part that isn't taken", multi("mixed", "b", multi("alternative", "c", html, plain), image), "3", "4");
        lists("text/htmlx", multi("alternative", "b", plain, leaf("text/htmlx")), "2", "");
    }

    private static void hanging() {
        lists("in a part that isn't taken",
                multi("alternative", "b", leaf("text/plain"), multi("related", "c", leaf("text/html"), leaf("image/x"))), "1", "4");
        lists("hung html", multi("mixed", "b", "Content-Type: text/html\nContent-Disposition: attachment\n\nx"), "", "1");
        lists("in order", multi("mixed", "b", leaf("a/b"), "Content-Type: message/rfc822\n\n" + leaf("c/d"), leaf("e/f")), "", "1 3 4");
        lists("attachments", "Content-Disposition: attachments\n", "0", "");
        lists("not the first ITEM", "Content-Disposition: a; attachment\n", "0", "");
    }

    // Promise 12

    private static void bodies() {
        MailParts x = Check.mail("A: b\r\n\r\nab\r\n\r\nc\rd\n");
        check.due("body(0, 0)", Check.bodyOf(x, 0, 0), "7:ab\n\nc\rd");
        check.due("body(0, 3)", Check.bodyOf(x, 0, 3), "4:\nc\rd");
        check.due("body(0, 7)", Check.bodyOf(x, 0, 7), "0:");
        Check.write(x, "keep");
        check.due("body(0, 8)", x.body(0, 8), NONE);
        check.due("body(0, -1)", x.body(0, -1), NONE);
        check.due("body(0, MAX)", x.body(0, Integer.MAX_VALUE), NONE);
        check.due("body(0, MIN)", x.body(0, Integer.MIN_VALUE), NONE);
        check.due("body(1, 0)", x.body(1, 0), NONE);
        check.due("body(-1, 0)", x.body(-1, 0), NONE);
        check.due("the tape stays", Check.tape(x), "keep");
        check.due("what was on it goes", Check.bodyOf(x, 0, 6), "1:d");
        check.due("no BODY", Check.bodyOf(Check.mail("A: b"), 0, 0), "0:");
        check.due("no BODY, 1", Check.bodyOf(Check.mail("A: b"), 0, 1), "NONE");
        check.due("one empty line", Check.bodyOf(Check.mail("\n\n"), 0, 0), "0:");
        check.due("two empty lines", Check.bodyOf(Check.mail("\n\n\n"), 0, 0), "1:\n");
        check.due("a 13 at the end", Check.bodyOf(Check.mail("\nx\r"), 0, 0), "2:x\r");
        String longest = "x".repeat(1500);
        check.due("1500", Check.bodyOf(Check.mail(longest), 0, 0), "1500:" + longest);
        x = Check.mail(multi("mixed", "b", "\nx\n", "y z\n"));
        check.due("of a part", Check.bodyOf(x, 1, 0), "2:x\n");
        check.due("of a part without a HEAD", Check.bodyOf(x, 2, 0), "4:y z\n");
        check.due("of a MULTI", Check.bodyOf(x, 0, 0), "22:--b\n\nx\n\n--b\ny z\n\n--b--");
        check.due("it can be read again", x.read(), 1);
    }

    // Promise 13

    private static void counts() {
        MailParts x = Check.mail(multi("mixed", "b", "\nx", leaf("a/b"), leaf("text/x")));
        check.due("count(0)", x.count(0), 4);
        check.due("count(1)", x.count(1), 2);
        check.due("count(2)", x.count(2), 1);
        check.due("count(3)", x.count(3), 0);
        check.due("count(4)", x.count(4), 14);
        check.due("count(5)", x.count(5), NONE);
        check.due("count(-1)", x.count(-1), NONE);
        check.due("count(MAX)", x.count(Integer.MAX_VALUE), NONE);
        check.due("count(MIN)", x.count(Integer.MIN_VALUE), NONE);
        check.due("1500 lines", Check.mail("\n".repeat(1500)).count(4), 1500);
        check.due("a last line", Check.mail("a\r\nb").count(4), 2);
    }
}
