/**
 * The terms of LINES, HEADS, FIELDS and VALUES, and what a HEAD makes of an ENTITY: a case for each
 * sentence and each edge that it names, named after the promise that shows it. The words of the
 * document stand above the cases they are of.
 */
public final class TermsOfHeadsTest {
    private static final Check check = new Check();

    public static void main(String[] args) throws IllegalAccessException {
        check.runCases(TermsOfHeadsTest.class);
        check.finish();
    }

    private static void lines(String text, int due) {
        check.due("lines of <" + text + ">", Check.mail(text).count(4), due);
    }

    private static void body(String text, String due) {
        check.due("BODY of <" + text + ">", Check.bodyOf(Check.mail(text), 0, 0), due);
    }

    /** How many lines HEAD and BODY have, and how many FIELDS there are. */
    private static void head(String text, int head, int body, int fields) {
        MailParts x = Check.mail(text);
        check.due("HEAD of <" + text + ">", x.entity(0, 6), head);
        check.due("BODY of <" + text + ">", x.entity(0, 7), body);
        check.due("FIELDS of <" + text + ">", x.entity(0, 9), fields);
    }

    private static void field(String text, String name, String due) {
        check.due("FIELD " + name + " of <" + text + ">", Check.fieldOf(Check.mail(text), 0, name), due);
    }

    private static void parameter(String value, String name, String due) {
        MailParts x = Check.mail("Content-Type:" + value + "\n");
        check.due("PARAMETER " + name + " of <" + value + ">", Check.parameterOf(x, 0, name), due);
    }

    private static void type(String value, String due) {
        MailParts x = Check.mail("Content-Type:" + value + "\n");
        check.due("TYPE of <" + value + ">", Check.word(x, 0, 0), due);
    }

    private static void coding(String value, String due) {
        MailParts x = Check.mail("Content-Transfer-Encoding:" + value + "\n");
        check.due("CODING of <" + value + ">", Check.word(x, 0, 1), due);
    }

    private static void hung(String value, int due) {
        MailParts x = Check.mail("Content-Disposition:" + value + "\n");
        check.due("HUNG by <" + value + ">", x.entity(0, 3), due);
    }

    private static void name(String head, String due) {
        check.due("NAME of <" + head + ">", Check.word(Check.mail(head), 0, 2), due);
    }

    // "A MAIL: at most 1500 bytes."

    static void promise04_mailOf1500Bytes() {
        String text = "A:b\n\n" + "x".repeat(1494) + "y";
        MailParts x = Check.mail(text);
        check.due("read", x.count(0), 1);
        check.due("the last byte", Check.bodyOf(x, 0, 1494), "1:y");
    }

    static void promise04_mailOfAnyBytes() {
        StringBuilder text = new StringBuilder("\n");
        for (int b = 0; b < 256; b++) {
            text.append((char) b);
        }
        MailParts x = Check.mail(text.toString());
        check.due("BODY", Check.bodyOf(x, 0, 0), "256:" + text.substring(1));
    }

    // "LINES end with a byte 10 (a 13 just ahead of it is no part of it), .."

    static void promise13_linesEndWithTen() {
        lines("a\nb\nc", 3);
        body("\na\nb", "3:a\nb");
    }

    static void promise13_lines13AheadOf10() {
        lines("a\r\nb\r\n", 2);
        body("\na\r\nb\r\n", "3:a\nb");
    }

    static void promise13_linesOnlyOne13Goes() {
        body("\na\r\r\nb", "4:a\r\nb");
        head("\r\r\nx", 0, 2, 0);
    }

    static void promise13_lines13Elsewhere() {
        lines("a\rb\r\rc", 1);
        body("\n\ra\rb\n", "4:\ra\rb");
        lines("\n\r", 2);
    }

    static void promise13_lines13AheadOf10IsAnEmptyLine() {
        head("A:b\r\n\r\nx", 1, 1, 1);
        lines("\r\n", 1);
        lines("\r\n\r\n", 2);
    }

    static void promise13_lines13AheadOf10OfAnotherLine() {
        // The 13 belongs to the line of its own 10, also if that has no other byte.
        lines("\n\r\n", 2);
        body("\n\n\r\n", "1:\n");
    }

    // ".. the last one with the MAIL (there is none behind a last 10)."

    static void promise13_linesLastWithoutTen() {
        lines("a\nb", 2);
        lines("a", 1);
    }

    static void promise13_linesLast13StaysWithoutTen() {
        lines("a\r", 1);
        body("\na\r", "2:a\r");
        head("\r", 0, 1, 0);
    }

    static void promise13_linesNoneBehindALastTen() {
        lines("a\n", 1);
        lines("\n", 1);
        lines("\n\n", 2);
    }

    static void promise13_linesOfAnEmptyMail() {
        lines("", 0);
    }

    // "ENTITIES are rows of lines, numbered from 0, the whole MAIL, on, as they begin."

    static void promise05_entitiesAsTheyBegin() {
        MailParts x = Check.mail(Mails.multi("mixed", "b", Mails.multi("mixed", "c", "\n1", Mails.enclosed("\n2")), "\n3"));
        int[] in = {-1, 0, 1, 1, 3, 0};
        check.due("ENTITIES", x.count(0), in.length);
        for (int entity = 0; entity < in.length; entity++) {
            check.due("in", x.entity(entity, 1), in[entity]);
            check.due("in order", entity == 0 || x.entity(entity, 4) > x.entity(entity - 1, 4) ? 1 : 0, 1);
        }
    }

    static void promise05_entityOfTheWholeMail() {
        MailParts x = Check.mail("A:b\n\nx\n--b\n");
        check.due("begin", x.entity(0, 4), 0);
        check.due("lines", x.entity(0, 6) + x.entity(0, 7), 3);
    }

    // "An ENTITY has a HEAD: lines up to the first that is empty, .."

    static void promise05_headUpToAnEmptyLine() {
        head("A:b\nC:d\n\nE:f\n", 2, 1, 2);
    }

    static void promise05_headOfNoLines() {
        head("\nA:b\n", 0, 1, 0);
        head("", 0, 0, 0);
    }

    static void promise05_headIsAll() {
        head("A:b", 1, 0, 1);
        head("A:b\n", 1, 0, 1);
        head("A:b\n c", 2, 0, 1);
    }

    // ".. or is neither a FIELD (a NAME of letters, digits, -, at least one; a :; its VALUE) .."

    static void promise05_headUpToALineThatIsNoField() {
        head("A:b\nx y\nC:d\n", 1, 2, 1);
        head("A:b\nx\n\nC:d\n", 1, 3, 1);
    }

    static void promise05_fieldNameBytes() {
        head("-09azAZ:c\n", 1, 0, 1);
        head("-:\n", 1, 0, 1);
        head("5:\n", 1, 0, 1);
    }

    static void promise05_fieldNameBytesThatAreNone() {
        // The neighbours of each row of letters and digits, and others.
        for (char c : "/@[`{_. \t\"\\;=\0\u007f\u00c1\u00e9\u00ff".toCharArray()) {
            head("a" + c + ":b\n", 0, 1, 0);
            head("a" + c + "b:c\n", 0, 1, 0);
        }
        head("a,:\n", 0, 1, 0);
        head("a\r:\n", 0, 1, 0);
    }

    static void promise05_fieldNameOfNoBytes() {
        head(":b\n", 0, 1, 0);
        head("A:b\n:c\n", 1, 1, 1);
    }

    static void promise05_fieldNameOfOneByte() {
        head("a:\n", 1, 0, 1);
    }

    static void promise05_fieldWithoutAColon() {
        head("A\n", 0, 1, 0);
        head("A:b\nC\n", 1, 1, 1);
        // The : of the next line is none of this one.
        head("A\n:b\n", 0, 2, 0);
    }

    static void promise05_fieldOfNoValue() {
        head("A:\n", 1, 0, 1);
        head("A:", 1, 0, 1);
        field("A:", "a", "0:");
    }

    static void promise05_fieldBlankAheadOfTheColon() {
        head("A :b\n", 0, 1, 0);
        head("A:b\nC :d\n", 1, 1, 1);
    }

    // ".. nor begins with a BLANK (32, 9) behind a FIELD (it comes to that VALUE, as it is);"

    static void promise05_headGoesOnWithABlank() {
        head("A:b\n c\n\td\nE:\n\nz", 4, 1, 2);
        field("A:b\n c\n\td \nE:\n", "a", "6:b c\td ");
    }

    static void promise05_headBlankBehindNoField() {
        head(" A:b\nC:d", 0, 2, 0);
        head("\tA:b", 0, 1, 0);
        head(" \n\nA:b", 0, 3, 0);
    }

    static void promise05_headOtherBytesAreNoBlank() {
        head("A:b\n\u000bc\n", 1, 1, 1);
        head("A:b\n\0c\n", 1, 1, 1);
        head("A:b\n\u00a0c\n", 1, 1, 1);
        head("A:b\n\rc\n", 1, 1, 1);
    }

    static void promise05_headLineOfBlanksAloneIsNotEmpty() {
        head("A:b\n \n\nz", 2, 1, 1);
        head("A:b\n\t\r\nC:d\n", 3, 0, 2);
        field("A:b\n \n\t\n", "a", "3:b \t");
    }

    static void promise05_headBlankBehindTheEmptyLine() {
        head("A:b\n\n c\n", 1, 1, 1);
        field("A:b\n\n c\n", "a", "1:b");
    }

    static void promise05_headLinesComeToTheFieldJustAhead() {
        field("A:1\n x\nB:2\n y\n", "a", "3:1 x");
        field("A:1\n x\nB:2\n y\n", "b", "3:2 y");
    }

    static void promise05_headLinesOfASecondFieldOfTheName() {
        field("A:1\nA:2\n x\n", "a", "1:1");
    }

    static void promise08_valueWithoutItsLineEnd() {
        field("A:b\r\n c\r\n", "a", "3:b c");
        field("A:b\r\r\n", "a", "2:b\r");
    }

    static void promise08_valueAsItStands() {
        field("A: \tb \t\n", "a", "5: \tb \t");
        field("A:b:c: d\n", "a", "6:b:c: d");
    }

    // ".. an empty one is passed over; all behind is the BODY."

    static void promise12_emptyLineIsPassedOver() {
        body("A:b\n\nx", "1:x");
        check.due("HEAD and BODY", Check.mail("A:b\n\nx").count(4), 3);
    }

    static void promise12_onlyOneEmptyLineIsPassedOver() {
        body("A:b\n\n\nx", "2:\nx");
        head("A:b\n\n\nx", 1, 2, 1);
    }

    static void promise12_anotherLineIsNotPassedOver() {
        body("A:b\nx y\nz", "5:x y\nz");
        body("x y\n\nz", "6:x y\n\nz");
    }

    static void promise12_bodyOfNoLines() {
        body("A:b\n\n", "0:");
        body("A:b", "0:");
    }

    // "Of two FIELDS of one name (great and small alike) the first counts."

    static void promise08_firstOfTwoFields() {
        field("A:1\na:2\n", "A", "1:1");
        field("a:1\nA:2\n", "A", "1:1");
        field("A:\na:2\n", "A", "0:");
        check.due("TYPE", Check.word(Check.mail("content-type: a/b\nContent-Type: c/d\n"), 0, 0), "a/b");
        check.due("TYPE of a bad first one", Check.word(Check.mail("Content-Type: x\nContent-Type: a/b\n"), 0, 0), "text/plain");
        check.due("HUNG", Check.mail("Content-Disposition: x\nContent-Disposition: attachment\n").entity(0, 3), 0);
    }

    // "ITEMS between ; that stand outside of quotation marks ("; a \ in these takes the next byte as it is)"

    static void promise09_itemsBetweenSemicolons() {
        parameter("a;c=1;d=2", "d", "1:2");
        type("A/B;c", "a/b");
    }

    static void promise09_itemsSemicolonInQuotationMarks() {
        parameter("a;x=\"1;c=2\";c=3", "c", "1:3");
        parameter("\"a;c=1\";c=2", "c", "1:2");
        type(" \"a;/B\";c", "\"a;/b\"");
    }

    static void promise09_itemsQuotationMarksAnywhere() {
        parameter("a;c=1\"2;3\"4;5", "c", "7:1\"2;3\"4");
        parameter("a;c=1\"\";d=2", "d", "1:2");
        parameter("a;x\"y;c=1\"z;c=2", "c", "1:2");
    }

    static void promise09_itemsBackslashTakesAQuotationMark() {
        parameter("a;x=\"1\\\";c=2\";c=3", "c", "1:3");
        type("\"a\\\";/B;c", "\"a\\\";/b;c");
    }

    static void promise09_itemsBackslashTakesABackslash() {
        parameter("a;x=\"1\\\\\";c=2", "c", "1:2");
    }

    static void promise09_itemsBackslashOutsideTakesNothing() {
        parameter("a;x=\\;c=2", "c", "1:2");
        parameter("a;x=\\\"1;c=2\";c=3", "c", "1:3");
        type("a\\;/b", "text/plain");
    }

    static void promise09_itemsQuotationMarkWithoutANext() {
        parameter("a;x=\"1;c=2", "c", "NONE");
        type("\"a/b;c", "\"a/b;c");
    }

    static void promise09_itemsBackslashAtTheEnd() {
        parameter("a;c=\"1\\", "c", "3:\"1\\");
        parameter("a;c=1\\", "c", "2:1\\");
    }

    static void promise09_itemsThatAreEmpty() {
        parameter(";c=1", "c", "1:1");
        parameter(";;;c=1;;", "c", "1:1");
        parameter(";", "c", "NONE");
        parameter("", "c", "NONE");
    }

    // ".. without BLANKS at both ends;"

    static void promise09_itemsWithoutBlanks() {
        type(" \t A/B \t ;c", "a/b");
        coding(" \t 7bit \t ", "7bit");
        coding("\n\t8bit\n ", "8bit");
        hung("\tattachment ", 1);
    }

    static void promise09_itemsOfBlanksAlone() {
        coding(" \t ", "");
        type(" \t ; a/b", "text/plain");
        parameter("a; \t ;c=1", "c", "1:1");
    }

    static void promise09_itemsOtherBytesStay() {
        coding("\r7bit\u000b", "\r7bit\u000b");
    }

    // ".. an ITEM with an = outside of these is a PARAMETER: a name (small), =, a value, .."

    static void promise09_parameterWithoutEqual() {
        parameter("a;c", "c", "NONE");
        parameter("a;c;c=1", "c", "1:1");
    }

    static void promise09_parameterEqualInQuotationMarks() {
        parameter("a;\"c=d\"=e", "\"c=d\"", "1:e");
        parameter("a;\"c=d\"=e", "c", "NONE");
        parameter("a;\"c=d\"", "\"c", "NONE");
        parameter("a;\"c\\\"=d\"=e", "\"c\\\"=d\"", "1:e");
        parameter("a;\"c=d", "\"c", "NONE");
    }

    static void promise09_parameterFirstEqualCounts() {
        parameter("a;c=1=2", "c", "3:1=2");
        parameter("a;c==", "c", "1:=");
    }

    static void promise09_parameterNameSmall() {
        parameter("a;CdE=1", "cde", "1:1");
        parameter("a;\u00c9=1", "\u00c9", "1:1");
        parameter("a;\u00c9=1", "\u00e9", "NONE");
        parameter("a;@[=1", "`{", "NONE");
    }

    static void promise09_parameterNameAnyBytes() {
        parameter("a;c d=e", "c d", "1:e");
        parameter("a;c/:*=e", "c/:*", "1:e");
    }

    static void promise09_parameterNameOfNoBytes() {
        parameter("a;=e", "", "1:e");
        parameter("a; =e", "", "1:e");
    }

    // ".. both without BLANKS at both ends;"

    static void promise09_parameterWithoutBlanks() {
        parameter("a; \tc\t = \t1 2 \t;d", "c", "3:1 2");
        parameter("a; c = \t ", "c", "0:");
        parameter("a;c=\n 1\n\t2\n ", "c", "3:1\t2");
    }

    static void promise09_parameterBlanksInQuotationMarksStay() {
        parameter("a; c = \" 1 \t\" ", "c", "4: 1 \t");
    }

    // ".. of a value that begins with " what stands up to the next " (without \ that take one);"

    static void promise09_valueInQuotationMarks() {
        parameter("a;c=\"1;=2\"", "c", "4:1;=2");
        parameter("a;c=\"1\"2;d", "c", "1:1");
        parameter("a;c=\"1\" \"2\"", "c", "1:1");
    }

    static void promise09_valueOfNothingInQuotationMarks() {
        parameter("a;c=\"\"", "c", "0:");
        parameter("a;c=\"\"1", "c", "0:");
    }

    static void promise09_valueBackslashesThatTakeOneGo() {
        parameter("a;c=\"1\\\"2\\\\\\3\";d=3", "c", "5:1\"2\\3");
        parameter("a;c=\"\\\\\"", "c", "1:\\");
        parameter("a;c=\"\\\"\"", "c", "1:\"");
        parameter("a;c=\"\\ \"", "c", "1: ");
    }

    // ".. without a next one, or without a " at its beginning, all of it as it stands."

    static void promise09_valueWithoutANextQuotationMark() {
        parameter("a;c=\"1;d=\\3", "c", "7:\"1;d=\\3");
        parameter("a;c=\"1\\\"", "c", "4:\"1\\\"");
        parameter("a;c=\"", "c", "1:\"");
        parameter("a;c=\"\\\\", "c", "3:\"\\\\");
    }

    static void promise09_valueWithoutAQuotationMarkAtItsBeginning() {
        parameter("a;c=1\"2\"", "c", "4:1\"2\"");
        parameter("a;c=1\\2", "c", "3:1\\2");
        parameter("a;c=\\\"2\"", "c", "4:\\\"2\"");
        parameter("a;c='1;2'", "c", "2:'1");
    }

    // "Of two of one name the first counts. The first ITEM is no PARAMETER."

    static void promise09_firstOfTwoParameters() {
        parameter("a;c=2;c=3", "c", "1:2");
        parameter("a;c=2;C=3", "C", "1:2");
        parameter("a;c=;c=3", "c", "0:");
    }

    static void promise09_firstItemIsNoParameter() {
        parameter("c=1", "c", "NONE");
        parameter("c=1;c=2", "c", "1:2");
        name("Content-Disposition: filename=a\n", "");
        check.due("boundary", Check.mail("Content-Type: multipart/a boundary=b\n\n--b").entity(0, 0), 0);
    }

    // "TYPE: the first ITEM of Content-Type, small, if it has a / with at least one byte ahead and behind, .."

    static void promise06_typeSmall() {
        type(" Text/HTML; charset=X", "text/html");
        type("AZ/@[", "az/@[");
        type("\u00c9/\u00c9", "\u00c9/\u00c9");
    }

    static void promise06_typeWithoutASlash() {
        type("ab", "text/plain");
        type("", "text/plain");
    }

    static void promise06_typeNothingAheadOfTheSlash() {
        type("/a", "text/plain");
        type(" /a", "text/plain");
    }

    static void promise06_typeNothingBehindTheSlash() {
        type("a/", "text/plain");
        type("a/ ;b", "text/plain");
    }

    static void promise06_typeASlashAlone() {
        type("/", "text/plain");
        type("//", "text/plain");
    }

    static void promise06_typeOneByteAheadAndBehind() {
        type("a/b", "a/b");
        type("///", "///");
        type("/a/b", "/a/b");
        type("a/b/", "a/b/");
    }

    // ".. and no BLANK;"

    static void promise06_typeWithABlank() {
        type("a/b c", "text/plain");
        type("a /b", "text/plain");
        type("a/ b", "text/plain");
        type("a/b\tc", "text/plain");
        type("a/b\n c", "text/plain");
    }

    // ".. otherwise, or without that FIELD, text/plain (message/rfc822 in a multipart/digest)."

    static void promise06_typeWithoutTheField() {
        check.due("TYPE", Check.word(Check.mail("A:b\n"), 0, 0), "text/plain");
        check.due("TYPE of nothing", Check.word(Check.mail(""), 0, 0), "text/plain");
        check.due("in the BODY", Check.word(Check.mail("\nContent-Type: a/b\n"), 0, 0), "text/plain");
    }

    static void promise06_typeInADigest() {
        MailParts x = Check.mail(Mails.multi("DIGEST", "b", "\nA: b\n", Mails.leaf("bad"), Mails.leaf("text/x")));
        check.due("without the FIELD", Check.word(x, 1, 0), "message/rfc822");
        check.due("in what that encloses", Check.word(x, 2, 0), "text/plain");
        check.due("a bad one", Check.word(x, 3, 0), "message/rfc822");
        check.due("a good one", Check.word(x, 5, 0), "text/x");
    }

    static void promise06_typeInAnotherThanADigest() {
        check.due("digests", Check.word(Check.mail(Mails.multi("digests", "b", "\nx")), 1, 0), "text/plain");
        check.due("deeper", Check.word(Check.mail(Mails.multi("digest", "b", Mails.multi("mixed", "c", "\nx"))), 2, 0), "text/plain");
    }

    // "CODING: Content-Transfer-Encoding's first ITEM, small."

    static void promise06_coding() {
        coding(" Base64 ; x", "base64");
        coding(" a b=C", "a b=c");
        coding("\"A;B\";c", "\"a;b\"");
    }

    static void promise06_codingOfNothing() {
        coding("", "");
        coding(";7bit", "");
        check.due("without the FIELD", Check.mail("").length(0, 1), 0);
    }

    // "HUNG if Content-Disposition's first ITEM, small, is attachment."

    static void promise05_hung() {
        hung(" attachment", 1);
        hung("ATTACHment;x=y", 1);
    }

    static void promise05_notHung() {
        hung("", 0);
        hung("inline", 0);
        hung("attachments", 0);
        hung("attachmen", 0);
        hung("xttachment", 0);
        hung("a; attachment", 0);
        hung("; attachment", 0);
        hung("\"attachment\"", 0);
        hung("attach ment", 0);
    }

    // "NAME of an ENTITY: the value of filename in Content-Disposition; else that of name in Content-Type; else nothing."

    static void promise06_nameOfFilename() {
        name("Content-Type: a/b; name=c\nContent-Disposition: x; FileName=\"A b.C\"\n", "A b.C");
    }

    static void promise06_nameOfAnEmptyFilename() {
        name("Content-Disposition: x; filename=\nContent-Type: a/b; name=c\n", "");
    }

    static void promise06_nameOfName() {
        name("Content-Type: bad; Name=c\n", "c");
        name("Content-Disposition: x; file=y\nContent-Type: a/b; name=c\n", "c");
    }

    static void promise06_nameOfNothing() {
        name("", "");
        name("Content-Type: a/b; filename=c\nContent-Disposition: x; name=d\n", "");
        name("Content-Disposition: x; filenames=c; xfilename=d\n", "");
        name("Content-Type: a; names=c; xname=d\n", "");
    }
}
