/**
 * The terms of KINDS and parts, of the depth and the room, of TEXTS and of what is HANGING: a case
 * for each sentence and each edge that it names, named after the promise that shows it. The words of
 * the document stand above the cases they are of.
 */
public final class TermsOfPartsTest {
    private static final int NONE = MailParts.NONE;
    private static final int AT = Mails.HEAD.length();
    private static final Check check = new Check();

    public static void main(String[] args) throws IllegalAccessException {
        check.runCases(TermsOfPartsTest.class);
        check.finish();
    }

    private static void kind(String text, int due) {
        check.due("KIND of <" + text + ">", Check.mail(text).entity(0, 0), due);
    }

    private static void multiKind(String value, int due) {
        kind("Content-Type: " + value + "\n", due);
    }

    private static void codedKind(String coding, int due) {
        kind("Content-Type: message/rfc822\nContent-Transfer-Encoding:" + coding + "\n", due);
    }

    /** At which bytes the parts of the whole begin, which have no parts of their own. */
    private static void starts(String text, int... due) {
        MailParts x = Check.mail(text);
        check.due("parts of <" + text + ">", x.entity(0, 8), due.length);
        check.due("ENTITIES of <" + text + ">", x.count(0), due.length + 1);
        for (int i = 0; i < due.length; i++) {
            check.due("begin of " + (i + 1) + " of <" + text + ">", x.entity(i + 1, 4), due[i]);
        }
    }

    private static void lists(String text, String texts, String hanging) {
        MailParts x = Check.mail(text);
        check.due("TEXTS of <" + text + ">", Check.list(x, false), texts);
        check.due("HANGING of <" + text + ">", Check.list(x, true), hanging);
        check.due("count(1) of <" + text + ">", x.count(1), texts.isEmpty() ? 0 : texts.split(" ").length);
        check.due("count(2) of <" + text + ">", x.count(2), hanging.isEmpty() ? 0 : hanging.split(" ").length);
    }

    private static String alternative(String... parts) {
        return Mails.multi("alternative", "b", parts);
    }

    // "1 MULTI: the TYPE begins with multipart/, .."

    static void promise05_kindsMulti() {
        multiKind("multipart/mixed; boundary=b", 1);
        multiKind("MultiPart/x; BOUNDARY=b", 1);
    }

    static void promise05_kindsTypeThatBeginsOtherwise() {
        multiKind("multipart; boundary=b", 0);
        multiKind("xmultipart/a; boundary=b", 0);
        multiKind("xultipart/a; boundary=b", 0);
        multiKind("multiparts/a; boundary=b", 0);
        multiKind("boundary=b; multipart/mixed", 0);
    }

    static void promise05_kindsMultiOfABadType() {
        multiKind("multipart/; boundary=b", 0);
        multiKind("multipart/a b; boundary=b", 0);
    }

    static void promise05_kindsMultiOfAnyCoding() {
        kind("Content-Type: multipart/mixed; boundary=b\nContent-Transfer-Encoding: base64\n", 1);
    }

    // ".. boundary is one of 1 to 70 bytes, .."

    static void promise05_kindsNoBoundary() {
        multiKind("multipart/mixed", 0);
        multiKind("multipart/mixed; boundary", 0);
        kind("Content-Type: multipart/mixed\nContent-Disposition: x; boundary=b\n", 0);
    }

    static void promise05_kindsBoundaryOfNoBytes() {
        multiKind("multipart/mixed; boundary=", 0);
        multiKind("multipart/mixed; boundary=\"\"", 0);
        multiKind("multipart/mixed; boundary=; boundary=b", 0);
    }

    static void promise05_kindsBoundaryOfOneByte() {
        multiKind("multipart/mixed; boundary=b", 1);
        multiKind("multipart/mixed; boundary=\" \"", 1);
    }

    static void promise05_kindsBoundaryOf70Bytes() {
        multiKind("multipart/mixed; boundary=" + "b".repeat(70), 1);
        multiKind("multipart/mixed; boundary=\"" + "\\b".repeat(70) + "\"", 1);
        String boundary = "b".repeat(69) + "c";
        MailParts x = Check.mail(Mails.multi("a", boundary, "\n--" + "b".repeat(70), "\ny"));
        check.due("parts", x.entity(0, 8), 2);
    }

    static void promise05_kindsBoundaryOf71Bytes() {
        multiKind("multipart/mixed; boundary=" + "b".repeat(71), 0);
        multiKind("multipart/mixed; boundary=" + "b".repeat(71) + "; boundary=b", 0);
    }

    // "2 ENCLOSED: the TYPE is message/rfc822, CODING is nothing, 7bit, 8bit or binary, .."

    static void promise05_kindsEnclosed() {
        kind("Content-Type: MESSAGE/rfc822; x=y\n", 2);
    }

    static void promise05_kindsAnotherMessage() {
        kind("Content-Type: message/rfc8222\n", 0);
        kind("Content-Type: message/rfc82\n", 0);
        kind("Content-Type: xessage/rfc822\n", 0);
    }

    static void promise05_kindsEnclosedCodingOfNothing() {
        codedKind("", 2);
        codedKind(" ; base64", 2);
    }

    static void promise05_kindsEnclosedCodings() {
        codedKind("7bit", 2);
        codedKind(" 8BIT", 2);
        codedKind(" Binary ; z", 2);
    }

    static void promise05_kindsOtherCodings() {
        codedKind("base64", 0);
        codedKind("quoted-printable", 0);
        codedKind("7 bit", 0);
        codedKind("7bits", 0);
        codedKind("8bi", 0);
        codedKind("binaryx", 0);
        codedKind("xinary", 0);
    }

    // "Too deep: an ENTITY that is in 8 others already."

    static void promise05_depthEnclosedInSeven() {
        MailParts x = Check.mail(Mails.enclosures(8, "x"));
        check.due("KIND of 7", x.entity(7, 0), 2);
        check.due("ENTITIES", x.count(0), 9);
        check.due("TEXTS", Check.list(x, false), "8");
    }

    static void promise05_depthEnclosedInEight() {
        MailParts x = Check.mail(Mails.enclosures(9, "x"));
        check.due("KIND of 8", x.entity(8, 0), 0);
        check.due("ENTITIES", x.count(0), 9);
        check.due("it hangs", Check.list(x, true), "8");
        check.due("no TEXT", Check.list(x, false), "");
    }

    static void promise05_depthMultiInSeven() {
        MailParts x = Check.mail(Mails.multis(8));
        check.due("KIND of 7", x.entity(7, 0), 1);
        check.due("ENTITIES", x.count(0), 9);
    }

    static void promise05_depthMultiInEight() {
        MailParts x = Check.mail(Mails.multis(9));
        check.due("KIND of 8", x.entity(8, 0), 0);
        check.due("its parts", x.entity(8, 8), 0);
        check.due("ENTITIES", x.count(0), 9);
    }

    static void promise05_depthNothingIsLost() {
        check.due("count(3)", Check.mail(Mails.multis(10)).count(3), 0);
        check.due("count(3)", Check.mail(Mails.enclosures(10, "")).count(3), 0);
    }

    static void promise05_depthNotOfWhatIsBeside() {
        MailParts x = Check.mail(Mails.HEAD + ("--b\n" + Mails.enclosed("\n")).repeat(12));
        check.due("ENTITIES", x.count(0), 25);
        check.due("KIND of the last part", x.entity(23, 0), 2);
    }

    // "lines of the BODY that are -- and the boundary, and BLANKS perhaps, begin a part;"

    static void promise04_multiBegins() {
        starts(Mails.HEAD + "--b\n\nx\n--b\n\ny\n", AT + 4, AT + 11);
    }

    static void promise04_multiBeginsWithBlanks() {
        starts(Mails.HEAD + "--b \t \nx\n--b\t\ny", AT + 7, AT + 14);
    }

    static void promise04_multiBegins13() {
        starts(Mails.HEAD + "--b\r\nx\r\n--b \r\ny", AT + 5, AT + 14);
    }

    static void promise04_multi13WithoutTenIsNoBlank() {
        starts(Mails.HEAD + "--b\nx\n--b\r", AT + 4);
    }

    static void promise04_multiLinesThatAreNone() {
        for (String line : new String[] {"--bc", "--b x", " --b", "-b", "--", "-", "", "--B", "--b-", "--b- -", "--b---", "--b --", "b", "-xb", "x-b", "---b"}) {
            starts(Mails.HEAD + line + "\n--b\nx\n", AT + line.length() + 5);
        }
    }

    static void promise04_multiNoBoundaryLine() {
        starts(Mails.HEAD + "x\ny");
        starts(Mails.HEAD);
        starts("Content-Type: multipart/a; boundary=b");
    }

    static void promise04_multiBoundaryLineIsTheLast() {
        starts(Mails.HEAD + "--b", AT + 3);
        starts(Mails.HEAD + "--b\n", AT + 4);
    }

    static void promise04_multiBoundaryLineEndsTheHead() {
        starts("Content-Type: multipart/a; boundary=b\n--b\n--b--", 42);
    }

    static void promise04_multiBoundaryLinesInTheHeadAreNone() {
        starts("Content-Type: multipart/a; boundary=\"-:\"\n---:\n\n---:\n", 52);
    }

    static void promise04_multiBoundaryThatIsGreatOrSmall() {
        starts("Content-Type: multipart/A; boundary=bB\n\n--BB\n--bb\n--bB\n", 55);
    }

    static void promise04_multiBoundaryWithABlankAtItsEnd() {
        starts("Content-Type: multipart/a; boundary=\"b \"\n\n--b\n--b \n--b --", 51);
    }

    static void promise04_multiBoundaryWithA13AtItsEnd() {
        // A 13 that ends a line is no byte of it, so it is none of the boundary either.
        starts("Content-Type: multipart/a; boundary=\"b\r\"\n\n--b\r\n--b\r\r\nx\n", 53);
        starts("Content-Type: multipart/a; boundary=\"b\r\"\n\n--b\r", 46);
    }

    static void promise04_multiBoundaryLongerThanTheLine() {
        starts("Content-Type: multipart/a; boundary=bbb\n\n--bb\n--b\n--bbb", 55);
        starts("Content-Type: multipart/a; boundary=bbb\n\n--bb");
    }

    static void promise04_multiBoundaryOfDashes() {
        starts("Content-Type: multipart/a; boundary=--\n\n----\n\n------\n----", 45);
    }

    // "-- boundary -- and BLANKS end it (what is behind, and ahead of the first, is nothing)."

    static void promise04_multiEnds() {
        starts(Mails.HEAD + "--b\nx\n--b--\n--b\ny", AT + 4);
        check.due("lines of the part", Check.mail(Mails.HEAD + "--b\nx\n--b--\n--b\ny").entity(1, 7), 1);
    }

    static void promise04_multiEndsWithBlanks() {
        starts(Mails.HEAD + "--b\nx\n--b-- \t\n--b\n", AT + 4);
        starts(Mails.HEAD + "--b\nx\n--b--\r\n--b\n", AT + 4);
    }

    static void promise04_multiAheadOfTheFirstIsNothing() {
        MailParts x = Check.mail(Mails.HEAD + "A: b\n\nahead\n--b\n\nx\n--b--");
        check.due("ENTITIES", x.count(0), 2);
        check.due("BODY", Check.bodyOf(x, 1, 0), "1:x");
    }

    static void promise04_multiBehindIsNothing() {
        MailParts x = Check.mail(Mails.HEAD + "--b\n\nx\n--b--\nbehind\n--b\n\ny\n");
        check.due("ENTITIES", x.count(0), 2);
        check.due("BODY", Check.bodyOf(x, 1, 0), "1:x");
    }

    static void promise04_multiEndsAheadOfTheFirst() {
        starts(Mails.HEAD + "--b--\n--b\nx\n");
    }

    // "A part is an ENTITY of the lines up to the next such line, or the end;"

    static void promise04_multiPartUpToTheNext() {
        MailParts x = Check.mail(Mails.HEAD + "--b\nA:1\n\nx\n--b\n--b--");
        check.due("BODY", Check.bodyOf(x, 1, 0), "1:x");
        check.due("lines of an empty one", x.entity(2, 6) + x.entity(2, 7), 0);
    }

    static void promise04_multiPartUpToTheEnd() {
        check.due("BODY", Check.bodyOf(Check.mail(Mails.HEAD + "--b\n\nx\ny"), 1, 0), "3:x\ny");
    }

    static void promise04_multiBoundaryThatWouldBeAField() {
        // It is no line of the part ahead of it.
        MailParts x = Check.mail("Content-Type: multipart/a; boundary=\"b:c\"\n\n--b:c\nA:1\n--b:c\n\n--b:c--");
        check.due("HEAD", x.entity(1, 6), 1);
        check.due("BODY", x.entity(1, 7), 0);
        check.due("FIELDS", x.entity(1, 9), 1);
        check.due("no FIELD", Check.fieldOf(x, 1, "--b"), "NONE");
    }

    // ".. what is in a part is looked at for its own boundaries after that."

    static void promise04_multiOuterBoundaryGoesFirst() {
        MailParts x = Check.mail(Mails.HEAD + "--b\nContent-Type: multipart/a; boundary=c\n\n--c\n\n1\n--b\n--c\n--b--\n--c");
        check.due("ENTITIES", x.count(0), 4);
        check.due("in the inner one", x.entity(2, 1), 1);
        check.due("its lines", x.entity(2, 7), 1);
        check.due("the next of the outer", x.entity(3, 1), 0);
        check.due("--c is its BODY", x.entity(3, 7), 1);
    }

    static void promise04_multiSameBoundaryIsTheOuterOnes() {
        MailParts x = Check.mail(Mails.HEAD + "--b\nContent-Type: multipart/a; boundary=b\n\n--b\n\n--b--");
        check.due("ENTITIES", x.count(0), 3);
        check.due("parts of the inner", x.entity(1, 8), 0);
        check.due("parts of the outer", x.entity(0, 8), 2);
    }

    static void promise04_multiInnerEndDoesNotEndTheOuter() {
        MailParts x = Check.mail(Mails.multi("a", "b", Mails.multi("a", "c", "\n1"), "\n2"));
        check.due("ENTITIES", x.count(0), 4);
        check.due("in", x.entity(3, 1), 0);
    }

    static void promise04_multiInAnEnclosedOne() {
        MailParts x = Check.mail(Mails.HEAD + "--b\n" + Mails.enclosed("Content-Type: multipart/a; boundary=b\n\n") + "--b\n\n1\n--b--");
        check.due("ENTITIES", x.count(0), 4);
        check.due("the enclosed MULTI has no parts", x.entity(2, 8), 0);
        check.due("the part is the outer one's", x.entity(3, 1), 0);
    }

    // "ENCLOSED: the BODY's lines are an ENTITY."

    static void promise04_enclosedBodysLines() {
        MailParts x = Check.mail(Mails.enclosed("A:1\n\nx\n"));
        check.due("ENTITIES", x.count(0), 2);
        check.due("begin", x.entity(1, 4), 30);
        check.due("HEAD", x.entity(1, 6), 1);
        check.due("BODY", Check.bodyOf(x, 1, 0), "1:x");
    }

    static void promise04_enclosedNoLines() {
        MailParts x = Check.mail("Content-Type: message/rfc822\n");
        check.due("ENTITIES", x.count(0), 2);
        check.due("HEAD", x.entity(1, 6), 0);
        check.due("BODY", x.entity(1, 7), 0);
        check.due("TYPE", Check.word(x, 1, 0), "text/plain");
        check.due("TEXTS", Check.list(x, false), "1");
    }

    static void promise04_enclosedWithoutAnEmptyLine() {
        MailParts x = Check.mail("Content-Type: message/rfc822\nno field\n");
        check.due("BODY", Check.bodyOf(x, 1, 0), "8:no field");
    }

    // "At most 60 ENTITIES: a part that would be more is nothing."

    static void promise04_roomJustFull() {
        MailParts x = Check.mail(Mails.HEAD + "--b\n".repeat(59) + "\nlast");
        check.due("ENTITIES", x.count(0), 60);
        check.due("BODY of the last", Check.bodyOf(x, 59, 0), "4:last");
        check.due("lost", x.count(3), 0);
    }

    static void promise04_roomOneMore() {
        MailParts x = Check.mail(Mails.HEAD + "--b\n".repeat(60) + "\nlast");
        check.due("ENTITIES", x.count(0), 60);
        check.due("parts", x.entity(0, 8), 59);
        check.due("BODY of the last", Check.bodyOf(x, 59, 0), "0:");
        check.due("no TEXT", x.count(1), 59);
        check.due("lost", x.count(3), 1);
    }

    static void promise04_roomManyMore() {
        MailParts x = Check.mail(Mails.HEAD + "--b\n".repeat(365));
        check.due("ENTITIES", x.count(0), 60);
        check.due("lost", x.count(3), 306);
    }

    static void promise04_roomNoneBehindTheEnd() {
        check.due("lost", Check.mail(Mails.HEAD + "--b\n".repeat(60) + "--b--\n--b\n--b\n").count(3), 1);
    }

    static void promise04_roomWhatIsInAPartComesAheadOfTheNext() {
        MailParts x = Check.mail(Mails.HEAD + "--b\nContent-Type: multipart/a; boundary=c\n\n" + "--c\n".repeat(60) + "--b\n--b\n");
        check.due("ENTITIES", x.count(0), 60);
        check.due("2 of the inner and 2 of the outer", x.count(3), 4);
        check.due("parts of the outer", x.entity(0, 8), 1);
        check.due("parts of the inner", x.entity(1, 8), 58);
    }

    static void promise04_roomWhatIsNothingHasNoParts() {
        // The 61st would be a MULTI of two parts: it is lost as one.
        MailParts x = Check.mail(Mails.HEAD + "--b\n".repeat(60) + "Content-Type: multipart/a; boundary=c\n\n--c\n--c\n");
        check.due("ENTITIES", x.count(0), 60);
        check.due("lost", x.count(3), 1);
    }

    static void promise04_roomMultiThatIsTheLast() {
        MailParts x = Check.mail(Mails.HEAD + "--b\n".repeat(59) + "Content-Type: multipart/a; boundary=c\n\n--c\n--c\n");
        check.due("ENTITIES", x.count(0), 60);
        check.due("KIND", x.entity(59, 0), 1);
        check.due("parts", x.entity(59, 8), 0);
        check.due("lost", x.count(3), 2);
    }

    static void promise04_roomEnclosedThatIsTheLast() {
        MailParts x = Check.mail("Content-Type: multipart/digest; boundary=b\n\n" + "--b\n".repeat(32));
        check.due("ENTITIES", x.count(0), 60);
        check.due("KIND", x.entity(59, 0), 2);
        check.due("nothing is in it", x.entity(59, 8), 0);
        check.due("what it encloses, and two parts", x.count(3), 3);
        check.due("TEXTS of those that are", x.count(1), 29);
    }

    // "TEXTS: of a LEAF that is SHOWN, whose TYPE begins with text/: it."

    static void promise11_textsLeaf() {
        lists("x", "0", "");
        lists("", "0", "");
        lists(Mails.leaf("TEXT/x"), "0", "");
        lists("Content-Disposition: inline\n", "0", "");
    }

    static void promise11_textsLeafOfAnotherType() {
        lists(Mails.leaf("image/png"), "", "0");
        lists(Mails.leaf("xext/a"), "", "0");
        lists(Mails.leaf("texts/a"), "", "0");
    }

    static void promise11_textsLeafThatHangs() {
        lists("Content-Disposition: ATTACHMENT; x\n", "", "0");
    }

    static void promise11_textsOfABadType() {
        lists(Mails.leaf("text"), "0", "");
        lists(Mails.leaf("image/"), "0", "");
    }

    // "Of ENCLOSED ones: those of what it encloses."

    static void promise11_textsEnclosed() {
        lists(Mails.enclosed(Mails.leaf("text/x")), "1", "");
        lists(Mails.enclosed(Mails.multi("mixed", "b", "\nx", "\ny")), "2 3", "");
    }

    static void promise11_textsEnclosedOfNone() {
        lists(Mails.enclosed(Mails.leaf("a/b")), "", "1");
    }

    static void promise11_textsHungOneEncloses() {
        lists("Content-Disposition: attachment\n" + Mails.enclosed("x"), "1", "");
    }

    static void promise11_textsNotEnclosed() {
        lists("Content-Transfer-Encoding: base64\n" + Mails.enclosed("x"), "", "0");
    }

    // "else those of all its parts, in order."

    static void promise11_textsMulti() {
        lists(Mails.multi("mixed", "b", Mails.leaf("text/html"), Mails.leaf("a/b"), Mails.leaf("text/x")), "1 3", "2");
        lists("Content-Disposition: attachment\n" + Mails.multi("mixed", "b", Mails.leaf("text/x")), "1", "");
    }

    static void promise11_textsMultiOfNoParts() {
        lists(Mails.HEAD, "", "");
        lists(alternative(), "", "");
    }

    static void promise11_textsMultiThatIsALeaf() {
        lists("Content-Type: multipart/mixed\n\n", "", "0");
        lists("Content-Type: multipart/alternative\n\n", "", "0");
    }

    // "if its TYPE is multipart/alternative: those of the last of its parts that has some and none of
    // them is text/html (in all of its own TEXTS), .."

    private static final String PLAIN = Mails.leaf("text/plain");
    private static final String HTML = Mails.leaf("text/html");
    private static final String IMAGE = Mails.leaf("image/png");

    static void promise11_textsAlternative() {
        lists(alternative(PLAIN, HTML), "1", "");
        lists(alternative(HTML, PLAIN), "2", "");
        lists(alternative(PLAIN, PLAIN, HTML), "2", "");
        lists(Mails.multi("ALTERNATIVE", "b", PLAIN, Mails.leaf("TEXT/HTML")), "1", "");
    }

    static void promise11_textsAlternativeLikeTypes() {
        lists(Mails.multi("alternatives", "b", PLAIN, HTML), "1 2", "");
        lists(Mails.multi("alternativ", "b", PLAIN, HTML), "1 2", "");
        lists(alternative(PLAIN, Mails.leaf("text/htmlx")), "2", "");
        lists(alternative(PLAIN, Mails.leaf("text/htm")), "2", "");
    }

    static void promise11_textsAlternativePartThatHasNone() {
        lists(alternative(PLAIN, IMAGE), "1", "2");
        lists(alternative(HTML, "Content-Disposition: attachment\n"), "1", "2");
        lists(alternative(PLAIN, Mails.multi("mixed", "c")), "1", "");
    }

    static void promise11_textsAlternativeHtmlInAllOfItsOwn() {
        lists(alternative(PLAIN, Mails.multi("mixed", "c", PLAIN, HTML)), "1", "");
        lists(alternative(PLAIN, Mails.multi("mixed", "c", HTML, PLAIN)), "1", "");
        lists(alternative(PLAIN, Mails.multi("mixed", "c", PLAIN, PLAIN)), "3 4", "");
        lists(alternative(PLAIN, Mails.enclosed(HTML)), "1", "");
        lists(alternative(PLAIN, Mails.enclosed(PLAIN)), "3", "");
    }

    static void promise11_textsAlternativeInAnother() {
        lists(alternative(PLAIN, Mails.multi("alternative", "c", HTML, PLAIN)), "4", "");
        lists(alternative(PLAIN, Mails.multi("alternative", "c", HTML)), "1", "");
    }

    static void promise11_textsAlternativeHtmlThatHangs() {
        lists(alternative(PLAIN, Mails.multi("mixed", "c", PLAIN, "Content-Disposition: attachment\n" + HTML)), "3", "4");
    }

    // ".. or if there is none those of the last that has some;"

    static void promise11_textsAlternativeOfHtmlAlone() {
        lists(alternative(HTML, HTML), "2", "");
        lists(alternative(HTML, IMAGE), "1", "2");
        lists(alternative(HTML, Mails.multi("mixed", "c", PLAIN, HTML)), "3 4", "");
    }

    static void promise11_textsAlternativeOfNone() {
        lists(alternative(IMAGE), "", "1");
    }

    static void promise11_textsAlternativeInAMixedOne() {
        lists(Mails.multi("mixed", "b", Mails.multi("alternative", "c", PLAIN, HTML), HTML), "2 4", "");
        lists(Mails.multi("mixed", "b", Mails.multi("alternative", "c", HTML, PLAIN), IMAGE), "3", "4");
    }

    // "HANGING: the LEAVES that are no TEXT of the MAIL's but HUNG, or of a TYPE that does not begin with text/."

    static void promise11_hangingHung() {
        lists(Mails.multi("mixed", "b", "Content-Disposition: attachment\n" + HTML, "\nx"), "2", "1");
    }

    static void promise11_hangingOfAnotherType() {
        lists(Mails.multi("mixed", "b", IMAGE, "Content-Disposition: attachment\n" + IMAGE), "", "1 2");
    }

    static void promise11_hangingTextThatIsNotTaken() {
        lists(alternative(HTML, PLAIN), "2", "");
    }

    static void promise11_hangingInAPartThatIsNotTaken() {
        lists(alternative(PLAIN, Mails.multi("related", "c", HTML, IMAGE)), "1", "4");
        lists(alternative(PLAIN, Mails.multi("related", "c", HTML, "Content-Disposition: attachment\n")), "1", "4");
    }

    static void promise11_hangingInOrder() {
        lists(Mails.multi("mixed", "b", IMAGE, Mails.enclosed(IMAGE), IMAGE), "", "1 3 4");
    }

    static void promise11_hangingOnlyLeaves() {
        lists("Content-Disposition: attachment\n" + Mails.HEAD, "", "");
        lists("Content-Disposition: attachment\n" + Mails.enclosed(""), "1", "");
        lists(Mails.enclosed(Mails.HEAD), "", "");
    }

    static void promise11_hangingTooDeep() {
        lists(Mails.multis(9), "", "8");
        check.due("none such", Check.mail(Mails.multis(9)).text(true, 1), NONE);
    }
}
