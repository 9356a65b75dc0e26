/**
 * Each promise: a case for ordinary inputs, and one for each edge and each refusal that the document
 * names. A case is named after its promise; the words of the document stand above those they are of.
 */
public final class PromisesTest {
    private static final int NONE = MailParts.NONE;
    private static final int MIN = Integer.MIN_VALUE;
    private static final int MAX = Integer.MAX_VALUE;
    private static final int A = 0x61616161;
    private static final Check check = new Check();

    public static void main(String[] args) throws IllegalAccessException {
        check.runCases(PromisesTest.class);
        check.finish();
    }

    private static void entity(MailParts x, int entity, int... due) {
        for (int what = 0; what < due.length; what++) {
            check.due("entity(" + entity + ", " + what + ")", x.entity(entity, what), due[what]);
        }
    }

    /** An object whose tape has so many bytes, all of them a. */
    private static MailParts taped(int size) {
        MailParts x = new MailParts();
        Check.write(x, "a".repeat(size));
        return x;
    }

    /** 60 ENTITIES, and so many parts that would be more. */
    private static MailParts full(int more) {
        return Check.mail(Mails.HEAD + "--b\n".repeat(59 + more));
    }

    /** As many numbers as there are no ENTITIES of, for a MAIL that has so many. */
    private static int[] noEntities(int made) {
        return new int[] {-1, -2, MIN, made, made + 1, 59, 60, MAX};
    }

    // Promise 1: "No tape; the MAIL is empty, but not read."

    static void promise01_none() {
        check.due("NONE", NONE, -1);
    }

    static void promise01_noTape() {
        check.due("byteAt(0)", new MailParts().byteAt(0), NONE);
        check.due("end(0)", new MailParts().end(0), 0);
    }

    static void promise01_mailIsEmpty() {
        check.due("count(4)", new MailParts().count(4), 0);
    }

    static void promise01_notReadHasNoEntities() {
        MailParts x = new MailParts();
        for (int what = 0; what < 4; what++) {
            check.due("count(" + what + ")", x.count(what), 0);
        }
        for (int what = -1; what <= 10; what++) {
            check.due("entity(0, " + what + ")", x.entity(0, what), NONE);
        }
        for (int what = -1; what <= 3; what++) {
            check.due("length(0, " + what + ")", x.length(0, what), NONE);
            check.due("at(0, " + what + ", 0)", x.at(0, what, 0), NONE);
        }
        check.due("text(false, 0)", x.text(false, 0), NONE);
        check.due("text(true, 0)", x.text(true, 0), NONE);
        check.due("body(0, 0)", x.body(0, 0), NONE);
        check.due("field(0)", x.field(0), NONE);
        check.due("parameter(0)", x.parameter(0), NONE);
    }

    static void promise01_readAtOnce() {
        MailParts x = new MailParts();
        check.due("read()", x.read(), 1);
        check.due("count(0)", x.count(0), 1);
    }

    static void promise01_notReadByFeedAndEnd() {
        MailParts x = taped(3);
        check.due("count(0)", x.count(0), 0);
        check.due("count(4)", x.count(4), 0);
        check.due("body(0, 0)", x.body(0, 0), NONE);
    }

    static void promise01_objectsAreApart() {
        MailParts x = Check.mail(Mails.multi("mixed", "b", "\nx", Mails.leaf("a/b")));
        Check.write(x, "tape");
        MailParts y = new MailParts();
        check.due("count(0)", y.count(0), 0);
        check.due("end(1)", y.end(1), 1);
        check.due("read()", y.read(), 1);
        check.due("the first one's", x.count(0), 3);
        check.due("the first one's tape", Check.tape(x), "tape");
    }

    // Promise 2: "Puts twenty bytes ready, those of a first, the highest of each first."

    static void promise02_order() {
        MailParts x = new MailParts();
        x.feed(0x41424344, 0x45464748, 0x494A4B4C, 0x4D4E4F50, 0x51525354);
        check.due("end(20)", x.end(20), 20);
        check.due("tape", Check.tape(x), "ABCDEFGHIJKLMNOPQRST");
    }

    static void promise02_bytesOfNegativeNumbers() {
        MailParts x = new MailParts();
        x.feed(-1, MIN, MAX, 0x80FF7F00, -256);
        x.end(20);
        check.due("tape", Check.tape(x),
                "\u00ff\u00ff\u00ff\u00ff\u0080\0\0\0\u007f\u00ff\u00ff\u00ff\u0080\u00ff\u007f\0\u00ff\u00ff\u00ff\0");
    }

    static void promise02_nothingComesByItself() {
        MailParts x = new MailParts();
        x.feed(A, A, A, A, A);
        check.due("byteAt(0)", x.byteAt(0), NONE);
        check.due("end(0)", x.end(0), 0);
    }

    static void promise02_theLastFeedCounts() {
        MailParts x = new MailParts();
        x.feed(A, A, A, A, A);
        x.feed(0x62000000, 0, 0, 0, 0x63);
        check.due("end(20)", x.end(20), 20);
        check.due("tape", Check.tape(x), "b" + "\0".repeat(18) + "c");
    }

    // "They are 0 at first, ..."

    static void promise02_zeroAtFirst() {
        MailParts x = new MailParts();
        check.due("end(20)", x.end(20), 20);
        check.due("tape", Check.tape(x), "\0".repeat(20));
    }

    // ".. and behind each end() that answers a number."

    static void promise02_zeroBehindEndOfTwenty() {
        MailParts x = new MailParts();
        x.feed(A, A, A, A, A);
        x.end(20);
        check.due("end(20)", x.end(20), 40);
        check.due("tape", Check.tape(x), "a".repeat(20) + "\0".repeat(20));
    }

    static void promise02_zeroBehindEndOfSome() {
        MailParts x = new MailParts();
        x.feed(A, A, A, A, A);
        x.end(1);
        check.due("end(20)", x.end(20), 21);
        check.due("tape", Check.tape(x), "a" + "\0".repeat(20));
    }

    static void promise02_zeroBehindEndOfNothing() {
        MailParts x = new MailParts();
        x.feed(A, A, A, A, A);
        check.due("end(0)", x.end(0), 0);
        check.due("end(20)", x.end(20), 20);
        check.due("tape", Check.tape(x), "\0".repeat(20));
    }

    static void promise02_zeroBehindEndOfNothingOnAFullTape() {
        MailParts x = taped(1500);
        x.feed(A, A, A, A, A);
        check.due("end(0)", x.end(0), 1500);
        x.read();
        check.due("end(1)", x.end(1), 1);
        check.due("tape", Check.tape(x), "\0");
    }

    static void promise02_staysBehindARefusedEnd() {
        MailParts x = new MailParts();
        x.feed(A, A, A, A, A);
        check.due("end(21)", x.end(21), NONE);
        check.due("end(-1)", x.end(-1), NONE);
        check.due("end(20)", x.end(20), 20);
        check.due("tape", Check.tape(x), "a".repeat(20));
    }

    static void promise02_staysBehindAnEndOnAFullTape() {
        MailParts x = taped(1500);
        x.feed(0x62636465, 0, 0, 0, 0);
        check.due("end(1)", x.end(1), NONE);
        x.read();
        check.due("end(4)", x.end(4), 4);
        check.due("tape", Check.tape(x), "bcde");
    }

    static void promise02_staysBehindOtherCalls() {
        MailParts x = Check.mail("A:b\nContent-Type:a;c=d\n\nxyz");
        x.feed(A, A, A, A, A);
        x.entity(0, 9);
        x.length(0, 0);
        x.at(0, 0, 0);
        x.field(0);
        x.parameter(0);
        x.text(false, 0);
        x.count(0);
        x.body(0, 0);
        x.byteAt(0);
        x.read();
        check.due("end(20)", x.end(20), 20);
        check.due("tape", Check.tape(x), "a".repeat(20));
    }

    // Promise 3: "The first n of the bytes that are ready come to the tape: how many it has."

    static void promise03_theFirstOfThem() {
        MailParts x = new MailParts();
        x.feed(0x41424344, 0x45464748, 0, 0, 0);
        check.due("end(6)", x.end(6), 6);
        check.due("tape", Check.tape(x), "ABCDEF");
        x.feed(0x61620000, 0, 0, 0, 0);
        check.due("end(1)", x.end(1), 7);
        check.due("tape", Check.tape(x), "ABCDEFa");
    }

    static void promise03_nOfNothing() {
        MailParts x = taped(5);
        check.due("end(0)", x.end(0), 5);
        check.due("tape", Check.tape(x), "aaaaa");
    }

    static void promise03_nOfTwenty() {
        check.due("end(20)", taped(5).end(20), 25);
    }

    // "NONE, and nothing comes, if n is not 0 .. 20, ..."

    private static void refused(MailParts x, int n, String tape) {
        check.due("end(" + n + ")", x.end(n), NONE);
        check.due("tape behind end(" + n + ")", Check.tape(x), tape);
    }

    static void promise03_nBelowNothingIsRefused() {
        refused(taped(5), -1, "aaaaa");
    }

    static void promise03_nAboveTwentyIsRefused() {
        refused(taped(5), 21, "aaaaa");
    }

    static void promise03_nFarBelowIsRefused() {
        refused(taped(5), MIN, "aaaaa");
        refused(taped(1500), MIN, "a".repeat(1500));
        refused(taped(1500), -20, "a".repeat(1500));
    }

    static void promise03_nFarAboveIsRefused() {
        // With 5 on the tape, and with 1500, the sum would wrap around.
        refused(taped(5), MAX, "aaaaa");
        refused(taped(1500), MAX, "a".repeat(1500));
        refused(taped(5), MAX - 4, "aaaaa");
    }

    // ".. or it would have more than 1500."

    static void promise03_tapeIsFilled() {
        MailParts x = new MailParts();
        for (int i = 1; i <= 75; i++) {
            check.due("end(20)", x.end(20), 20 * i);
        }
        check.due("byteAt(1499)", x.byteAt(1499), 0);
        check.due("byteAt(1500)", x.byteAt(1500), NONE);
    }

    static void promise03_oneMoreThanFullIsRefused() {
        refused(taped(1500), 1, "a".repeat(1500));
        refused(taped(1499), 2, "a".repeat(1499));
        refused(taped(1481), 20, "a".repeat(1481));
    }

    static void promise03_justFull() {
        check.due("end(1)", taped(1499).end(1), 1500);
        check.due("end(20)", taped(1480).end(20), 1500);
    }

    static void promise03_nothingOnAFullTape() {
        check.due("end(0)", taped(1500).end(0), 1500);
    }

    static void promise03_onWhatABodyLeft() {
        MailParts x = Check.mail("\n" + "a".repeat(1490));
        check.due("body(0, 0)", x.body(0, 0), 1490);
        check.due("end(11)", x.end(11), NONE);
        check.due("end(10)", x.end(10), 1500);
    }

    static void promise03_onWhatAFieldLeft() {
        MailParts x = Check.mail("A:bc");
        Check.write(x, "a");
        x.field(0);
        check.due("end(2)", x.end(2), 4);
        check.due("tape", Check.tape(x), "bc\0\0");
    }

    // Promise 4: "The tape, which is empty then, is the MAIL: how many ENTITIES."

    static void promise04_howMany() {
        MailParts x = new MailParts();
        Check.write(x, Mails.multi("mixed", "b", "\nx", "\ny"));
        check.due("read()", x.read(), 3);
        check.due("count(0)", x.count(0), 3);
    }

    static void promise04_emptyTape() {
        MailParts x = new MailParts();
        check.due("read()", x.read(), 1);
        entity(x, 0, 0, NONE, 0, 0, 0, 0, 0, 0, 0, 0);
        check.due("TEXTS", Check.list(x, false), "0");
        check.due("HANGING", Check.list(x, true), "");
        check.due("body", Check.bodyOf(x, 0, 0), "0:");
        check.due("lines", x.count(4), 0);
    }

    static void promise04_fullTape() {
        MailParts x = taped(1500);
        check.due("read()", x.read(), 1);
        check.due("lines", x.count(4), 1);
        check.due("body", x.body(0, 0), 1500);
    }

    static void promise04_tapeIsEmptyThen() {
        MailParts x = Check.mail("A: b\n\nx");
        check.due("byteAt(0)", x.byteAt(0), NONE);
        check.due("end(0)", x.end(0), 0);
        x = Check.mail("a".repeat(1500));
        check.due("end(20) behind a full one", x.end(20), 20);
    }

    static void promise04_oldMailUntilRead() {
        MailParts x = Check.mail(Mails.multi("mixed", "b", "\nx", "\ny"));
        Check.write(x, "A: b\n\nx");
        check.due("count(0)", x.count(0), 3);
        check.due("entity(2, 1)", x.entity(2, 1), 0);
        check.due("read()", x.read(), 1);
    }

    static void promise04_secondReadIsOfNothing() {
        MailParts x = Check.mail(Mails.multi("mixed", "b", "\nx", "\ny"));
        check.due("read()", x.read(), 1);
        check.due("lines", x.count(4), 0);
        check.due("entity(1, 0)", x.entity(1, 0), NONE);
        check.due("entity(0, 5)", x.entity(0, 5), 0);
        check.due("body(0, 1)", x.body(0, 1), NONE);
    }

    static void promise04_nothingOfAnEarlierMail() {
        MailParts x = Check.mail(Mails.multi("alternative", "long",
                Mails.leaf("text/html"), Mails.leaf("text/plain"), Mails.leaf("a/b")));
        check.due("FIELDS at first", x.entity(1, 9), 1);
        check.due("TEXTS at first", Check.list(x, false), "2");
        check.due("HANGING at first", Check.list(x, true), "3");
        Check.write(x, Mails.multi("alternative", "b", Mails.leaf("c/d"), "Content-Disposition: attachment\n\nx"));
        check.due("read again", x.read(), 3);
        check.due("parts again", x.entity(0, 8), 2);
        check.due("TEXTS again", Check.list(x, false), "");
        check.due("HANGING again", Check.list(x, true), "1 2");
        Check.write(x, Mails.multi("mixed", "c", "A: b\n" + Mails.leaf("text/html")));
        check.due("read once more", x.read(), 2);
        check.due("parts once more", x.entity(0, 8), 1);
        check.due("TEXTS once more", Check.list(x, false), "1");
        check.due("HANGING once more", Check.list(x, true), "");
        check.due("not HUNG any more", x.entity(1, 3), 0);
        check.due("FIELDS once more", x.entity(1, 9), 2);
    }

    static void promise04_kindsOfAnEarlierMail() {
        MailParts x = Check.mail(Mails.multi("mixed", "b", Mails.enclosed("x"), "\ny"));
        Check.write(x, "\nx");
        check.due("read()", x.read(), 1);
        check.due("a LEAF behind a MULTI", x.entity(0, 0), 0);
        check.due("no parts", x.entity(0, 8), 0);
        check.due("TEXTS", Check.list(x, false), "0");
        Check.write(x, Mails.multi("mixed", "b", "\nx", "\ny"));
        check.due("read() again", x.read(), 3);
        check.due("a LEAF behind an ENCLOSED one", x.entity(1, 0), 0);
        Check.write(x, Mails.enclosed("x"));
        check.due("read() once more", x.read(), 2);
        check.due("an ENCLOSED one behind a MULTI", x.entity(0, 0), 2);
    }

    static void promise04_fullRoomIsFreeAgain() {
        MailParts x = full(9);
        check.due("lost", x.count(3), 9);
        Check.write(x, Mails.HEAD + "--b\n".repeat(59));
        check.due("read()", x.read(), 60);
        check.due("lost again", x.count(3), 0);
        check.due("parts again", x.entity(0, 8), 59);
    }

    static void promise04_ofWhatABodyLeft() {
        MailParts x = Check.mail(Mails.enclosed(Mails.multi("mixed", "b", "\nx")));
        x.body(0, 0);
        check.due("read()", x.read(), 2);
        check.due("KIND", x.entity(0, 0), 1);
    }

    // Promise 5

    static void promise05_ordinary() {
        String text = "Content-Type: multipart/mixed; boundary=b\n\n--b\nA: 1\nB: 2\n c\n\nx\ny\n--b\n--b\n"
                + "Content-Disposition: attachment\n--b--\n";
        MailParts x = Check.mail(text);
        entity(x, 0, 1, NONE, 0, 0, 0, 43, 1, 11, 3, 1);
        entity(x, 1, 0, 0, 1, 0, 47, 61, 3, 2, 0, 2);
        entity(x, 2, 0, 0, 1, 0, 69, text.length(), 0, 0, 0, 0);
        entity(x, 3, 0, 0, 1, 1, 73, text.length(), 1, 0, 0, 1);
    }

    // "NONE if there is none such, ..."

    static void promise05_noSuchEntity() {
        MailParts x = Check.mail(Mails.multi("mixed", "b", "\nx"));
        check.due("the last one", x.entity(1, 0), 0);
        for (int entity : noEntities(2)) {
            for (int what = 0; what <= 9; what++) {
                check.due("entity(" + entity + ", " + what + ")", x.entity(entity, what), NONE);
            }
        }
    }

    static void promise05_noSuchEntityWhenFull() {
        MailParts x = full(1);
        check.due("the last one", x.entity(59, 1), 0);
        check.due("the next", x.entity(60, 1), NONE);
        check.due("the one behind", x.entity(61, 1), NONE);
    }

    // ".. or for another what."

    static void promise05_anotherWhat() {
        MailParts x = Check.mail("A: b\n\nc");
        check.due("9 is one", x.entity(0, 9), 1);
        for (int what : new int[] {-1, -10, MIN, 10, 11, 256, MAX}) {
            check.due("entity(0, " + what + ")", x.entity(0, what), NONE);
        }
    }

    // "the ENTITY that it is in (1; NONE)"

    static void promise05_theWholeIsInNone() {
        check.due("entity(0, 1)", Check.mail(Mails.enclosed("x")).entity(0, 1), NONE);
        check.due("entity(1, 1)", Check.mail(Mails.enclosed("x")).entity(1, 1), 0);
    }

    // "in how many it is (2)"

    static void promise05_inHowMany() {
        MailParts x = Check.mail(Mails.enclosures(9, "x"));
        for (int i = 0; i <= 8; i++) {
            check.due("entity(" + i + ", 2)", x.entity(i, 2), i);
        }
        check.due("entity(9, 2)", x.entity(9, 2), NONE);
    }

    // "1 if it is HUNG, else 0 (3)"

    static void promise05_hung() {
        check.due("HUNG", Check.mail("Content-Disposition: attachment\n").entity(0, 3), 1);
        check.due("without the FIELD", Check.mail("").entity(0, 3), 0);
        check.due("of a MULTI", Check.mail("Content-Disposition: attachment\n" + Mails.HEAD).entity(0, 3), 1);
        check.due("of an ENCLOSED", Check.mail("Content-Disposition: attachment\n" + Mails.enclosed("")).entity(0, 3), 1);
    }

    // "at which byte of the MAIL its lines begin, or would (4)"

    static void promise05_beginOfAnEmptyPart() {
        MailParts x = Check.mail(Mails.HEAD + "--b\n--b\r\n--b--\nbehind");
        int at = Mails.HEAD.length();
        check.due("ahead of a boundary", x.entity(1, 4), at + 4);
        check.due("ahead of the last boundary", x.entity(2, 4), at + 9);
    }

    static void promise05_beginOfAnEmptyPartAtTheEnd() {
        int at = Mails.HEAD.length();
        check.due("with a 10", Check.mail(Mails.HEAD + "--b\n").entity(1, 4), at + 4);
        check.due("without a 10", Check.mail(Mails.HEAD + "--b").entity(1, 4), at + 3);
    }

    static void promise05_beginOfAnEmptyEnclosedOne() {
        check.due("at the end", Check.mail("Content-Type: message/rfc822\n\n").entity(1, 4), 30);
        check.due("no empty line", Check.mail("Content-Type: message/rfc822").entity(1, 4), 28);
        MailParts x = Check.mail(Mails.HEAD + "--b\nContent-Type: message/rfc822\n--b\nx");
        check.due("ahead of a boundary", x.entity(2, 4), Mails.HEAD.length() + 33);
    }

    static void promise05_beginOfAnEmptyMail() {
        check.due("entity(0, 4)", Check.mail("").entity(0, 4), 0);
    }

    // "its BODY's (5; the MAIL's length if that has none)"

    static void promise05_beginOfABody() {
        check.due("behind an empty line", Check.mail("A:b\n\nx").entity(0, 5), 5);
        check.due("behind a 13", Check.mail("A:b\r\n\r\nx").entity(0, 5), 7);
        check.due("an empty line", Check.mail("A:b\n\n\n").entity(0, 5), 5);
        check.due("no HEAD", Check.mail("x y").entity(0, 5), 0);
        check.due("no empty line", Check.mail("A:b\nx y").entity(0, 5), 4);
    }

    static void promise05_noBodyAtTheEnd() {
        check.due("a HEAD alone", Check.mail("A:b").entity(0, 5), 3);
        check.due("with a 10", Check.mail("A:b\n").entity(0, 5), 4);
        check.due("with an empty line", Check.mail("A:b\n\n").entity(0, 5), 5);
        check.due("with an empty line of 13, 10", Check.mail("A:b\n\r\n").entity(0, 5), 6);
        check.due("nothing", Check.mail("").entity(0, 5), 0);
    }

    static void promise05_noBodyAheadOfABoundary() {
        String text = Mails.HEAD + "--b\nA:b\n--b\nA:b\n\n--b\n--b--\nbehind\n";
        MailParts x = Check.mail(text);
        check.due("a HEAD alone", x.entity(1, 5), text.length());
        check.due("with an empty line", x.entity(2, 5), text.length());
        check.due("no lines", x.entity(3, 5), text.length());
    }

    // "how many lines HEAD and BODY have (6, 7)"

    private static void lines(String text, int head, int body) {
        MailParts x = Check.mail(text);
        check.due("HEAD of <" + text + ">", x.entity(0, 6), head);
        check.due("BODY of <" + text + ">", x.entity(0, 7), body);
    }

    static void promise05_linesOfNone() {
        lines("", 0, 0);
        lines("\n", 0, 0);
        lines("\n\n", 0, 1);
        lines("A:b", 1, 0);
        lines("x", 0, 1);
    }

    static void promise05_linesOfMany() {
        lines("a:\n".repeat(500), 500, 0);
        lines("\n".repeat(1500), 0, 1499);
        lines("A:\n" + " \n".repeat(700), 701, 0);
    }

    static void promise05_linesOfAMulti() {
        MailParts x = Check.mail(Mails.HEAD + "ahead\n--b\n\n--b--\nbehind");
        check.due("HEAD", x.entity(0, 6), 1);
        check.due("BODY", x.entity(0, 7), 5);
    }

    // "how many parts (8)"

    static void promise05_noParts() {
        check.due("of a LEAF", Check.mail("--b").entity(0, 8), 0);
        check.due("of a MULTI", Check.mail(Mails.HEAD + "x\n").entity(0, 8), 0);
        check.due("of a MULTI without a BODY", Check.mail(Mails.HEAD).entity(0, 8), 0);
    }

    static void promise05_partsOfAMulti() {
        check.due("one", Check.mail(Mails.HEAD + "--b").entity(0, 8), 1);
        check.due("three", Check.mail(Mails.HEAD + "--b\n--b\n--b\n--b--\n--b").entity(0, 8), 3);
    }

    static void promise05_partsInPartsAreNotCounted() {
        MailParts x = Check.mail(Mails.multi("mixed", "b", Mails.multi("mixed", "c", "\n1", "\n2", "\n3"), "\n4"));
        check.due("outer", x.entity(0, 8), 2);
        check.due("inner", x.entity(1, 8), 3);
    }

    static void promise05_partsWhenFull() {
        check.due("59", full(0).entity(0, 8), 59);
        check.due("not those that are nothing", full(3).entity(0, 8), 59);
    }

    static void promise05_whatIsEnclosedIsAPart() {
        check.due("entity(0, 8)", Check.mail(Mails.enclosed("x")).entity(0, 8), 1);
    }

    // "FIELDS (9; of different names)"

    static void promise05_noFields() {
        check.due("nothing", Check.mail("").entity(0, 9), 0);
        check.due("no HEAD", Check.mail("\nA:b\n").entity(0, 9), 0);
    }

    static void promise05_fieldsOfOneName() {
        check.due("great and small", Check.mail("a:1\nA:2\nb:3\na:4\nB:5\nab:6").entity(0, 9), 3);
        check.due("500 of one", Check.mail("a:\n".repeat(500)).entity(0, 9), 1);
    }

    static void promise05_fieldsOfManyNames() {
        StringBuilder text = new StringBuilder();
        for (int i = 0; i < 250; i++) {
            text.append(Integer.toString(i + 36, 36)).append(":x\n");
        }
        MailParts x = Check.mail(text.toString());
        check.due("250 names", x.entity(0, 9), 250);
        check.due("asked again", x.entity(0, 9), 250);
    }

    static void promise05_fieldsWithLinesBehind() {
        check.due("a line that looks like one", Check.mail("A:b\n C:d\n\tE:f\nG:").entity(0, 9), 2);
    }

    // Promise 6: "How many bytes .. TYPE (0), CODING (1), NAME (2) has."

    static void promise06_ordinary() {
        MailParts x = Check.mail("Content-Type: Image/PNG; name=x\nContent-Transfer-Encoding: Base64\n"
                + "Content-Disposition: inline; filename=\"a b.png\"\n");
        check.due("length(0, 0)", x.length(0, 0), 9);
        check.due("length(0, 1)", x.length(0, 1), 6);
        check.due("length(0, 2)", x.length(0, 2), 7);
    }

    static void promise06_nothing() {
        MailParts x = Check.mail("");
        check.due("TYPE", x.length(0, 0), 10);
        check.due("CODING", x.length(0, 1), 0);
        check.due("NAME", x.length(0, 2), 0);
    }

    static void promise06_theLongest() {
        check.due("TYPE", Check.mail("Content-Type:a/" + "b".repeat(1485)).length(0, 0), 1487);
        check.due("CODING", Check.mail("Content-Transfer-Encoding:" + "b".repeat(1474)).length(0, 1), 1474);
        check.due("NAME", Check.mail("Content-Type:;name=" + "b".repeat(1481)).length(0, 2), 1481);
    }

    // "NONE if there is none such, ..."

    static void promise06_noSuchEntity() {
        MailParts x = Check.mail(Mails.multi("mixed", "b", "\nx"));
        check.due("the last one", x.length(1, 0), 10);
        for (int entity : noEntities(2)) {
            for (int what = 0; what <= 2; what++) {
                check.due("length(" + entity + ", " + what + ")", x.length(entity, what), NONE);
            }
        }
        check.due("when full", full(1).length(60, 0), NONE);
    }

    // ".. or for another what."

    static void promise06_anotherWhat() {
        MailParts x = Check.mail("");
        for (int what : new int[] {-1, -3, MIN, 3, 4, 256, MAX}) {
            check.due("length(0, " + what + ")", x.length(0, what), NONE);
        }
    }

    static void promise06_tapeStays() {
        MailParts x = Check.mail("Content-Type: a/b; name=c\n");
        Check.write(x, "keep");
        for (int what = -1; what <= 3; what++) {
            x.length(0, what);
            x.at(0, what, 0);
        }
        check.due("tape", Check.tape(x), "keep");
    }

    // Promise 7: "Byte k of that; NONE if there is none."

    static void promise07_ordinary() {
        MailParts x = Check.mail("Content-Type: A/B; name=C\nContent-Transfer-Encoding: 7Bit\n");
        check.due("TYPE", Check.word(x, 0, 0), "a/b");
        check.due("CODING", Check.word(x, 0, 1), "7bit");
        check.due("NAME", Check.word(x, 0, 2), "C");
    }

    static void promise07_firstAndLast() {
        MailParts x = Check.mail("");
        check.due("at(0, 0, 0)", x.at(0, 0, 0), 't');
        check.due("at(0, 0, 9)", x.at(0, 0, 9), 'n');
    }

    static void promise07_kBelowNothing() {
        MailParts x = Check.mail("");
        check.due("at(0, 0, -1)", x.at(0, 0, -1), NONE);
        check.due("at(0, 0, MIN)", x.at(0, 0, MIN), NONE);
    }

    static void promise07_kBehindTheLast() {
        MailParts x = Check.mail("Content-Type: text/a; name=longer-than-it\n");
        check.due("at(0, 0, 6)", x.at(0, 0, 6), NONE);
        check.due("at(0, 0, 7)", x.at(0, 0, 7), NONE);
        check.due("at(0, 0, 1500)", x.at(0, 0, 1500), NONE);
        check.due("at(0, 0, MAX)", x.at(0, 0, MAX), NONE);
    }

    static void promise07_ofNothing() {
        MailParts x = Check.mail("Content-Type: a/b\n");
        check.due("CODING", x.at(0, 1, 0), NONE);
        check.due("NAME", x.at(0, 2, 0), NONE);
    }

    static void promise07_noSuchEntity() {
        MailParts x = Check.mail(Mails.multi("mixed", "b", "\nx"));
        for (int entity : noEntities(2)) {
            check.due("at(" + entity + ", 0, 0)", x.at(entity, 0, 0), NONE);
        }
        check.due("when full", full(1).at(60, 0, 0), NONE);
    }

    static void promise07_anotherWhat() {
        MailParts x = Check.mail("");
        for (int what : new int[] {-1, MIN, 3, MAX}) {
            check.due("at(0, " + what + ", 0)", x.at(0, what, 0), NONE);
        }
    }

    static void promise07_highBytes() {
        MailParts x = Check.mail("Content-Type: a/\u00ff\u0080; name=\0\n");
        check.due("at(0, 0, 2)", x.at(0, 0, 2), 255);
        check.due("at(0, 0, 3)", x.at(0, 0, 3), 128);
        check.due("at(0, 2, 0)", x.at(0, 2, 0), 0);
    }

    // Promise 8: "The value of an ENTITY's FIELD of the name that is on the tape .. is the tape"

    static void promise08_ordinary() {
        MailParts x = Check.mail("A: 1 \nbC:2\n  x\n\ty \r\nA:3\n z\nD:\n\nE:5\n");
        check.due("as it is", Check.fieldOf(x, 0, "A"), "3: 1 ");
        check.due("with lines behind", Check.fieldOf(x, 0, "bC"), "7:2  x\ty ");
        check.due("in the BODY", Check.fieldOf(x, 0, "E"), "NONE");
    }

    static void promise08_ofAPart() {
        MailParts x = Check.mail(Mails.multi("mixed", "b", "A: in\n"));
        check.due("of a part", Check.fieldOf(x, 1, "A"), "3: in");
        check.due("not of the whole", Check.fieldOf(x, 0, "A"), "NONE");
    }

    // "(great or small; the tape is empty then)"

    static void promise08_greatOrSmall() {
        MailParts x = Check.mail("aZ-0:1\nBy:2\n");
        check.due("great", Check.fieldOf(x, 0, "AZ-0"), "1:1");
        check.due("small", Check.fieldOf(x, 0, "az-0"), "1:1");
        check.due("the other way", Check.fieldOf(x, 0, "bY"), "1:2");
        check.due("not by 32 alone", Check.fieldOf(x, 0, "aZ\r0"), "NONE");
        check.due("not a digit", Check.fieldOf(x, 0, "aZ-P"), "NONE");
    }

    static void promise08_nameIsGone() {
        MailParts x = Check.mail("longname:b\n");
        check.due("value", Check.fieldOf(x, 0, "longname"), "1:b");
        check.due("more comes behind the value", Check.write(x, "xy"), 3);
        check.due("tape", Check.tape(x), "bxy");
    }

    static void promise08_emptyValue() {
        MailParts x = Check.mail("A:\nB:\r\n\r\n");
        check.due("A", Check.fieldOf(x, 0, "A"), "0:");
        check.due("B", Check.fieldOf(x, 0, "B"), "0:");
    }

    // "NONE if there is none (or it would be more than 1500)."

    static void promise08_noSuchField() {
        MailParts x = Check.mail("Abc:1\n");
        Check.write(x, "q");
        check.due("field(0)", x.field(0), NONE);
        check.due("byteAt(0)", x.byteAt(0), NONE);
        check.due("end(0)", x.end(0), 0);
    }

    static void promise08_notTheWholeName() {
        MailParts x = Check.mail("Abc:1\nd:e:2\n");
        check.due("a beginning", Check.fieldOf(x, 0, "Ab"), "NONE");
        check.due("an end", Check.fieldOf(x, 0, "bc"), "NONE");
        check.due("longer", Check.fieldOf(x, 0, "Abcd"), "NONE");
        check.due("with :", Check.fieldOf(x, 0, "Abc:"), "NONE");
        check.due("with : and more", Check.fieldOf(x, 0, "Abc:1"), "NONE");
        check.due("up to a later :", Check.fieldOf(x, 0, "d:e"), "NONE");
    }

    static void promise08_emptyName() {
        MailParts x = Check.mail("A:1\n :2\n");
        check.due("field(0)", x.field(0), NONE);
        check.due("a BLANK", Check.fieldOf(x, 0, " "), "NONE");
    }

    static void promise08_nameOf1500Bytes() {
        MailParts x = Check.mail("a:1\n");
        Check.write(x, "a".repeat(1500));
        check.due("field(0)", x.field(0), NONE);
        check.due("end(0)", x.end(0), 0);
    }

    static void promise08_theLongestName() {
        String name = "a".repeat(1499);
        check.due("nothing behind", Check.fieldOf(Check.mail(name + ":"), 0, name), "0:");
    }

    static void promise08_theLongestValue() {
        String value = "x".repeat(1498);
        check.due("in one line", Check.fieldOf(Check.mail("a:" + value), 0, "a"), "1498:" + value);
        String lines = "a:" + "\n y".repeat(499);
        check.due("in 500 lines", Check.fieldOf(Check.mail(lines), 0, "a"), "998:" + " y".repeat(499));
    }

    static void promise08_noSuchEntity() {
        MailParts x = Check.mail("A:1\n");
        for (int entity : noEntities(1)) {
            Check.write(x, "A");
            check.due("field(" + entity + ")", x.field(entity), NONE);
            check.due("byteAt(0) behind field(" + entity + ")", x.byteAt(0), NONE);
        }
        MailParts y = full(1);
        check.due("when full", Check.fieldOf(y, 60, "A"), "NONE");
    }

    // Promise 9: "The value of a PARAMETER of that name (likewise) of Content-Type is the tape"

    static void promise09_ordinary() {
        MailParts x = Check.mail("Content-Type: a/b; c=D; e=\"f; g\"\n");
        check.due("c", Check.parameterOf(x, 0, "c"), "1:D");
        check.due("e", Check.parameterOf(x, 0, "e"), "4:f; g");
    }

    static void promise09_greatOrSmall() {
        MailParts x = Check.mail("Content-Type: a/b; cD=1\n");
        check.due("great", Check.parameterOf(x, 0, "CD"), "1:1");
        check.due("small", Check.parameterOf(x, 0, "cd"), "1:1");
        check.due("the other way", Check.parameterOf(x, 0, "Cd"), "1:1");
    }

    static void promise09_nameIsGone() {
        MailParts x = Check.mail("Content-Type: a; longname=b\n");
        check.due("value", Check.parameterOf(x, 0, "longname"), "1:b");
        check.due("more comes behind the value", Check.write(x, "xy"), 3);
    }

    static void promise09_emptyValue() {
        check.due("nothing", Check.parameterOf(Check.mail("Content-Type: a; c=\n"), 0, "c"), "0:");
        check.due("quotation marks", Check.parameterOf(Check.mail("Content-Type: a; c=\"\"\n"), 0, "c"), "0:");
    }

    // "NONE if there is none."

    static void promise09_noSuchParameter() {
        MailParts x = Check.mail("Content-Type: a; cd=1\n");
        Check.write(x, "e");
        check.due("parameter(0)", x.parameter(0), NONE);
        check.due("byteAt(0)", x.byteAt(0), NONE);
        check.due("a beginning", Check.parameterOf(x, 0, "c"), "NONE");
        check.due("longer", Check.parameterOf(x, 0, "cde"), "NONE");
        check.due("with =", Check.parameterOf(x, 0, "cd="), "NONE");
        check.due("a BLANK ahead", Check.parameterOf(x, 0, " cd"), "NONE");
    }

    static void promise09_withoutThatField() {
        MailParts x = Check.mail("Content-Disposition: a; c=1\nX: a; c=1\n");
        Check.write(x, "c");
        check.due("parameter(0)", x.parameter(0), NONE);
        check.due("byteAt(0)", x.byteAt(0), NONE);
    }

    static void promise09_ofABadType() {
        check.due("c", Check.parameterOf(Check.mail("Content-Type: no type; c=1\n"), 0, "c"), "1:1");
    }

    static void promise09_emptyName() {
        check.due("an ITEM that begins with =", Check.parameterOf(Check.mail("Content-Type: a; =e\n"), 0, ""), "1:e");
        check.due("none such", Check.parameterOf(Check.mail("Content-Type: a; e;\n"), 0, ""), "NONE");
    }

    static void promise09_nameOf1500Bytes() {
        MailParts x = Check.mail("Content-Type: a; a=1\n");
        Check.write(x, "a".repeat(1500));
        check.due("parameter(0)", x.parameter(0), NONE);
        check.due("end(0)", x.end(0), 0);
    }

    static void promise09_theLongestValue() {
        String value = "x".repeat(1484);
        check.due("c", Check.parameterOf(Check.mail("Content-Type:;c=" + value), 0, "c"), "1484:" + value);
    }

    static void promise09_noSuchEntity() {
        MailParts x = Check.mail("Content-Type: a; c=1\n");
        for (int entity : noEntities(1)) {
            Check.write(x, "c");
            check.due("parameter(" + entity + ")", x.parameter(entity), NONE);
            check.due("byteAt(0) behind parameter(" + entity + ")", x.byteAt(0), NONE);
        }
    }

    static void promise09_ofAPart() {
        MailParts x = Check.mail(Mails.multi("mixed", "b", "Content-Type: text/x; c=1\n"));
        check.due("of a part", Check.parameterOf(x, 1, "c"), "1:1");
        check.due("not of the whole", Check.parameterOf(x, 0, "c"), "NONE");
    }

    // Promise 10: "Byte k of the tape; NONE if there is none."

    static void promise10_ordinary() {
        MailParts x = new MailParts();
        Check.write(x, "ab\u00ff\u0080\0");
        check.due("byteAt(0)", x.byteAt(0), 'a');
        check.due("byteAt(2)", x.byteAt(2), 255);
        check.due("byteAt(3)", x.byteAt(3), 128);
        check.due("byteAt(4)", x.byteAt(4), 0);
    }

    static void promise10_kBelowNothing() {
        check.due("byteAt(-1)", taped(3).byteAt(-1), NONE);
        check.due("byteAt(MIN)", taped(3).byteAt(MIN), NONE);
    }

    static void promise10_kBehindTheLast() {
        check.due("byteAt(3)", taped(3).byteAt(3), NONE);
        check.due("byteAt(1499)", taped(3).byteAt(1499), NONE);
        check.due("byteAt(1500)", taped(3).byteAt(1500), NONE);
        check.due("byteAt(MAX)", taped(3).byteAt(MAX), NONE);
    }

    static void promise10_emptyTape() {
        check.due("a new one", new MailParts().byteAt(0), NONE);
        check.due("behind read", Check.mail("abc").byteAt(0), NONE);
    }

    static void promise10_fullTape() {
        check.due("byteAt(1499)", taped(1500).byteAt(1499), 'a');
        check.due("byteAt(1500)", taped(1500).byteAt(1500), NONE);
    }

    static void promise10_shorterThanBefore() {
        MailParts x = Check.mail("\nabcdef");
        x.body(0, 0);
        x.body(0, 4);
        check.due("byteAt(1)", x.byteAt(1), 'f');
        check.due("byteAt(2)", x.byteAt(2), NONE);
    }

    // Promise 11: "The k-th of the MAIL's TEXTS (hanging: of what is HANGING, in order): which ENTITY"

    static void promise11_ordinary() {
        MailParts x = Check.mail(Mails.multi("mixed", "b", "\nx", Mails.leaf("a/b"), "\ny", Mails.leaf("c/d")));
        check.due("text(false, 0)", x.text(false, 0), 1);
        check.due("text(false, 1)", x.text(false, 1), 3);
        check.due("text(true, 0)", x.text(true, 0), 2);
        check.due("text(true, 1)", x.text(true, 1), 4);
    }

    // "NONE if there is none such."

    static void promise11_kBelowNothing() {
        MailParts x = Check.mail(Mails.multi("mixed", "b", "\nx", Mails.leaf("a/b")));
        check.due("text(false, -1)", x.text(false, -1), NONE);
        check.due("text(false, MIN)", x.text(false, MIN), NONE);
        check.due("text(true, -1)", x.text(true, -1), NONE);
        check.due("text(true, MIN)", x.text(true, MIN), NONE);
    }

    static void promise11_kBehindTheLast() {
        MailParts x = Check.mail(Mails.multi("mixed", "b", "\nx", Mails.leaf("a/b")));
        for (int k : new int[] {1, 2, 59, 60, MAX}) {
            check.due("text(false, " + k + ")", x.text(false, k), NONE);
            check.due("text(true, " + k + ")", x.text(true, k), NONE);
        }
    }

    static void promise11_noneAtAll() {
        check.due("no TEXTS", Check.mail(Mails.leaf("a/b")).text(false, 0), NONE);
        check.due("nothing HANGING", Check.mail("x").text(true, 0), NONE);
        check.due("neither", Check.mail(Mails.HEAD).text(false, 0), NONE);
        check.due("neither", Check.mail(Mails.HEAD).text(true, 0), NONE);
    }

    static void promise11_fullOfTexts() {
        MailParts x = full(1);
        check.due("text(false, 58)", x.text(false, 58), 59);
        check.due("text(false, 59)", x.text(false, 59), NONE);
    }

    static void promise11_fullOfHanging() {
        MailParts x = Check.mail(Mails.HEAD + "--b\nContent-Type:a/b\n".repeat(60));
        check.due("ENTITIES", x.count(0), 60);
        check.due("text(true, 58)", x.text(true, 58), 59);
        check.due("text(true, 59)", x.text(true, 59), NONE);
        check.due("text(false, 0)", x.text(false, 0), NONE);
    }

    // Promise 12: "The bytes of an ENTITY's BODY, from byte k of it on, are the tape"

    static void promise12_ordinary() {
        MailParts x = Check.mail("A: b\n\nab\ncd\n");
        check.due("body(0, 0)", Check.bodyOf(x, 0, 0), "5:ab\ncd");
        check.due("body(0, 1)", Check.bodyOf(x, 0, 1), "4:b\ncd");
        check.due("body(0, 2)", Check.bodyOf(x, 0, 2), "3:\ncd");
    }

    static void promise12_ofParts() {
        MailParts x = Check.mail(Mails.multi("mixed", "b", "\nx\n", "y z\n"));
        check.due("of a part", Check.bodyOf(x, 1, 0), "2:x\n");
        check.due("of a part without a HEAD", Check.bodyOf(x, 2, 0), "4:y z\n");
        check.due("of a MULTI", Check.bodyOf(x, 0, 0), "22:--b\n\nx\n\n--b\ny z\n\n--b--");
    }

    // "(lines with 10 between, none behind the last one)"

    static void promise12_tenBetweenLines() {
        check.due("13, 10", Check.bodyOf(Check.mail("\r\nab\r\n\r\nc\rd\r\n"), 0, 0), "7:ab\n\nc\rd");
        check.due("a 13 at the end", Check.bodyOf(Check.mail("\nx\r"), 0, 0), "2:x\r");
        check.due("two of 13", Check.bodyOf(Check.mail("\nx\r\r\ny"), 0, 0), "4:x\r\ny");
    }

    static void promise12_noTenBehindTheLast() {
        check.due("without a 10", Check.bodyOf(Check.mail("\nx"), 0, 0), "1:x");
        check.due("with a 10", Check.bodyOf(Check.mail("\nx\n"), 0, 0), "1:x");
        check.due("with two", Check.bodyOf(Check.mail("\nx\n\n"), 0, 0), "2:x\n");
    }

    static void promise12_linesThatAreEmpty() {
        check.due("one", Check.bodyOf(Check.mail("\n\n"), 0, 0), "0:");
        check.due("two", Check.bodyOf(Check.mail("\n\n\n"), 0, 0), "1:\n");
        check.due("1499", Check.bodyOf(Check.mail("\n".repeat(1500)), 0, 0), "1498:" + "\n".repeat(1498));
    }

    static void promise12_noBody() {
        check.due("a HEAD alone", Check.bodyOf(Check.mail("A: b"), 0, 0), "0:");
        check.due("nothing", Check.bodyOf(Check.mail(""), 0, 0), "0:");
        check.due("k = 1", Check.bodyOf(Check.mail("A: b"), 0, 1), "NONE");
    }

    static void promise12_emptyBodyEmptiesTheTape() {
        MailParts x = Check.mail("A: b");
        Check.write(x, "gone");
        check.due("body(0, 0)", x.body(0, 0), 0);
        check.due("byteAt(0)", x.byteAt(0), NONE);
    }

    // "at most 1500"

    static void promise12_theLongest() {
        String longest = "x".repeat(1500);
        check.due("body(0, 0)", Check.bodyOf(Check.mail(longest), 0, 0), "1500:" + longest);
        check.due("body(0, 1499)", Check.bodyOf(Check.mail(longest), 0, 1499), "1:x");
    }

    // "NONE if there is none such, or k is not 0 .. its length; the tape stays then."

    static void promise12_kOfItsLength() {
        MailParts x = Check.mail("\nabc\n");
        Check.write(x, "gone");
        check.due("body(0, 3)", x.body(0, 3), 0);
        check.due("byteAt(0)", x.byteAt(0), NONE);
        check.due("of the longest", Check.mail("x".repeat(1500)).body(0, 1500), 0);
    }

    private static void noBody(MailParts x, int entity, int k) {
        Check.readAnew(x, "\nabc\n");
        Check.write(x, "keep");
        check.due("body(" + entity + ", " + k + ")", x.body(entity, k), NONE);
        check.due("tape behind body(" + entity + ", " + k + ")", Check.tape(x), "keep");
    }

    static void promise12_kBelowNothing() {
        noBody(new MailParts(), 0, -1);
        noBody(new MailParts(), 0, MIN);
    }

    static void promise12_kBeyondItsLength() {
        noBody(new MailParts(), 0, 4);
        noBody(new MailParts(), 0, 5);
        noBody(new MailParts(), 0, MAX);
        check.due("beyond the longest", Check.mail("x".repeat(1500)).body(0, 1501), NONE);
    }

    static void promise12_noSuchEntity() {
        for (int entity : noEntities(1)) {
            noBody(new MailParts(), entity, 0);
        }
        check.due("when full", full(1).body(60, 0), NONE);
    }

    static void promise12_notReadTapeStays() {
        MailParts x = taped(2);
        check.due("body(0, 0)", x.body(0, 0), NONE);
        check.due("tape", Check.tape(x), "aa");
    }

    static void promise12_mailStays() {
        MailParts x = Check.mail("A:b\n\nabc");
        x.body(0, 0);
        Check.write(x, "more");
        check.due("again", Check.bodyOf(x, 0, 0), "3:abc");
        check.due("FIELD", Check.fieldOf(x, 0, "a"), "1:b");
    }

    // Promise 13: "ENTITIES (what = 0), TEXTS (1), what is HANGING (2), parts that were nothing for
    // want of room (3), lines of the MAIL (4)."

    static void promise13_ordinary() {
        MailParts x = Check.mail(Mails.multi("mixed", "b", "\nx", Mails.leaf("a/b"), Mails.leaf("text/x")));
        check.due("count(0)", x.count(0), 4);
        check.due("count(1)", x.count(1), 2);
        check.due("count(2)", x.count(2), 1);
        check.due("count(3)", x.count(3), 0);
        check.due("count(4)", x.count(4), 14);
    }

    static void promise13_entitiesWhenFull() {
        check.due("59", Check.mail(Mails.HEAD + "--b\n".repeat(58)).count(0), 59);
        check.due("60", full(0).count(0), 60);
        check.due("61", full(1).count(0), 60);
    }

    static void promise13_lostNoneWhenJustFull() {
        check.due("count(3)", full(0).count(3), 0);
    }

    static void promise13_lostWhenMoreThanFull() {
        check.due("one", full(1).count(3), 1);
        check.due("300", full(300).count(3), 300);
    }

    static void promise13_noTextsNothingHanging() {
        check.due("TEXTS", Check.mail(Mails.HEAD).count(1), 0);
        check.due("HANGING", Check.mail(Mails.HEAD).count(2), 0);
    }

    static void promise13_textsWhenFull() {
        check.due("TEXTS", full(1).count(1), 59);
    }

    static void promise13_linesOfNone() {
        check.due("count(4)", Check.mail("").count(4), 0);
    }

    static void promise13_linesWithAndWithoutALastTen() {
        check.due("a last 10", Check.mail("a\n").count(4), 1);
        check.due("no last 10", Check.mail("a").count(4), 1);
        check.due("a last line", Check.mail("a\r\nb").count(4), 2);
    }

    static void promise13_linesOfAFullMail() {
        check.due("count(4)", Check.mail("\n".repeat(1500)).count(4), 1500);
    }

    // "NONE for another what."

    static void promise13_anotherWhat() {
        MailParts x = Check.mail("x");
        for (int what : new int[] {-1, -5, MIN, 5, 6, 256, MAX}) {
            check.due("count(" + what + ")", x.count(what), NONE);
            check.due("count(" + what + ") of a new one", new MailParts().count(what), NONE);
        }
    }
}
