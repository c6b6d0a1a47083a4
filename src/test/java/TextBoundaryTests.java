import java.io.IOException;

/** Each sentence that names a boundary case of the tape and of texts: promises 1 to 4. */
public final class TextBoundaryTests {
    private static final String NO_ELEMENT = Checks.NO_ELEMENT;
    private static final String NO_ARGUMENT = Checks.NO_ARGUMENT;
    private static final String RINGS = Checks.RINGS;
    private static final String LEAST = "-2147483648";
    private static final String MOST = "2147483647";
    private static final String BLANK_FEED = "feed 538976288 538976288 538976288 538976288 538976288";
    private static final String CABLE = "cable 0 1 5;";

    private final Sentences doc;

    private TextBoundaryTests(Sentences doc) {
        this.doc = doc;
    }

    public static void main(String[] args) throws IOException {
        run();
        Checks.end("every boundary case of promises 1 to 4 holds");
    }

    static void run() throws IOException {
        Sentences doc = new Sentences(1, 4);
        TextBoundaryTests tests = new TextBoundaryTests(doc);
        tests.promise1();
        tests.promise2();
        tests.promise3Tape();
        tests.promise3Fault();
        tests.promise3Anew();
        tests.promise3Wrong();
        tests.promise4();
        tests.limits();
        tests.tokens();
        tests.clauses();
        tests.whichFault();
        tests.fault1();
        tests.fault1Ends();
        tests.fault2();
        tests.fault3();
        tests.fault4();
        tests.fault5();
        doc.end();
    }

    private void promise1() {
        String words = "As an empty TEXT tells.";
        asEmpty(doc.promise(1, words)).dueEach("count", 4, 0, 0, 0, 0, 4, 0, 0, -1, 0, 0, 0, 0, 0, 0, 0, 0, 0);
        asEmpty(doc.promise(1, words).text(RINGS).due("price 0 9", 4).text(""));
    }

    private static Checks asEmpty(Checks test) {
        return test.dueEach("count", 4, 0, 0, 0, 0, 4, 0, 0, -1, 0, 0, 0, 0, 0, 0).due("count 18", 0)
                .due("count 19", -1).due("count 20", 0).due("count 21", 0).due("count 22", 0).due("fault", -1)
                .due("cable 0 0", NO_ELEMENT).due("taken 0", NO_ELEMENT).due("swap 0 0", NO_ELEMENT)
                .due("site 3 2", 3).due("site 4 2", NO_ELEMENT).due("alike", 1).due("undo", -1).due("restore", 0)
                .told("sites 4;");
    }

    private void promise2() {
        doc.promise(2, "Twenty bytes come behind the tape, of each number the highest first: how many it has;")
                .due("feed 1936290917 1931490107 1667326572 1696608288 824194363", 20)
                .due("feed 1667326572 1696608544 840971067 538976288 538976288", 40)
                .due("net 32", 0).told("sites 3;cable 0 1 5 0;cable 1 2 3 0;");
        // The byte 255 is no sign of any token: it is told apart from a letter by its highest bit, too.
        doc.promise(2, "Twenty bytes come behind the tape, of each number the highest first: how many it has;")
                .due("feed 538976288 538976288 538976288 538976288 538976511", 20).due("net 20", 1).due("fault", 19)
                .due("feed -1 -1 -1 -1 -1", 20).due("net 20", 1).due("fault", 0)
                .due("feed " + LEAST + " 0 0 0 0", 20).due("net 20", 1).due("fault", 0);
        Checks full = doc.promise(2, "NONE, and none come, if it would have more than 700.").due("count 14", 0);
        for (int bytes = 20; bytes <= 700; bytes += 20) {
            full.due(BLANK_FEED, bytes);
        }
        full.due("count 14", 700).due("feed 0 0 0 0 0", -1).due("feed -1 -1 -1 -1 -1", -1).due("count 14", 700)
                .due("net 701", NO_ARGUMENT).due("net 700", 0).due("count 14", 0).due("feed 0 0 0 0 0", 20);
    }

    private void promise3Tape() {
        String words = "The tape's first n bytes (it is empty then) are a TEXT, all anew";
        doc.promise(3, words).feed("sites 3;cable 0 1 5;").due("count 14", 20).due("net 8", 0).due("count 14", 0)
                .told("sites 3;").due(BLANK_FEED, 20);
        doc.promise(3, words).text(RINGS).feed("xxx").due("net 0", 0).due("count 14", 0).told("sites 4;");
        doc.promise(3, words).text(RINGS).due("net 0", 0).told("sites 4;");
        doc.promise(3, words).feed("x").due("net 1", 1).due("count 14", 0).due("net 1", NO_ARGUMENT)
                .due(BLANK_FEED, 20);
        doc.promise(3, words).text("sites 10;cable 9 8 5;broken 0;").text(CABLE).told("sites 4;cable 0 1 5 0;")
                .due("count 2", 1);
    }

    private void promise3Fault() {
        Checks test = doc.promise(3, "0, or the FAULT (all stays, but STATUS).").text(RINGS).due("price 0 9", 4)
                .due("note 1 true", 1).due("image", "").due("breaks 5", 1);
        test.faulty(1, "sites 3;cable 0 1 5;^x").faulty(2, "sites ^1;").faulty(3, "sites 2;cable 0 ^2 5;")
                .faulty(4, CABLE + "^sites 3;").faulty(5, "cable 2 ^2 5;");
        test.dueEach("count", 5, 6, 31, 30, 17, 1, 1, 1, 22, 2).due("count 12", 2).due("count 13", 1)
                .due("count 15", 5).due("count 16", 0).due("count 17", 0)
                .dueEach("swap 0", 1, 0, 0, 2, 17)
                .told("sites 5;cable 0 1 9 1;cable 1 2 4 0;cable 0 2 4 2;cable 2 3 7 1;cable 3 4 2 3;cable 2 4 9 0;"
                        + "broken 5;")
                .due("undo", 1).due("cable 5 4", 1).due("restore", 1).due("count 15", 0);
        doc.term(3, "STATUS: how many calls were refused: 0 TEXTS with a FAULT").due("count 15", 0)
                .faulty(1, "^x").due("count 15", 1).text("").due("count 15", 1).due("net 1", NO_ARGUMENT)
                .due("net -1", NO_ARGUMENT).due("count 15", 1).faulty(1, "^x").due("count 15", 2)
                .due("count 16", 0).due("count 17", 0);
    }

    private void promise3Anew() {
        String words = "ACTS, what is NOTED, the image are gone.";
        busy(doc.promise(3, words)).text(RINGS).due("count 12", 0).due("undo", -1).due("count 13", 0)
                .due("fits 0 0", 999).due("restore", 0).due("cable 0 2", 4);
        busy(doc.promise(3, words)).due("net 0", 0).due("count 12", 0).due("undo", -1).due("count 13", 0)
                .due("restore", 0).told("sites 4;");
        busy(doc.term(3, "(none for a TEXT)")).due("count 6", 1).text(RINGS).due("count 6", 0).due("count 7", 0)
                .due("swap 0 0", NO_ELEMENT);
    }

    private static Checks busy(Checks test) {
        return test.text(RINGS).due("price 0 9", 4).due("note 0 true", 1).due("fits 0 0", 4).due("image", "");
    }

    private void promise3Wrong() {
        doc.promise(3, "IllegalArgumentException: the tape has not so many").dueAll(NO_ARGUMENT, "net 1", "net 701",
                "net " + MOST).due(BLANK_FEED, 20).dueAll(NO_ARGUMENT, "net 21", "net 700", "net " + MOST)
                .due("count 14", 20).due("net 20", 0).due("net 20", NO_ARGUMENT);
        doc.promise(3, "n below 0 (nothing changes).").text(RINGS).due("price 0 9", 4).due("note 1 true", 1)
                .due("image", "").faulty(1, "^x").due(BLANK_FEED, 20)
                .dueAll(NO_ARGUMENT, "net -1", "net " + LEAST, "net 21", "net " + MOST)
                .due("count 14", 20).due("fault", 0).due("count 15", 1).due("count 1", 6).due("count 12", 1)
                .due("count 13", 1).due("count 6", 1).due("restore", 1);
    }

    private void promise4() {
        doc.promise(4, "The place of the latest net()'s FAULT").faulty(1, "sites 3;^x").faulty(1, "^x", "sites ^x")
                .due("fault", 6).due("net -1", NO_ARGUMENT).due("net 1", NO_ARGUMENT).due("fault", 6)
                .due("image", "").due("restore", 1).due("fault", 6).due(BLANK_FEED, 20).due("fault", 6);
        doc.promise(4, "NONE without.").due("fault", -1).due("net 1", NO_ARGUMENT).due("fault", -1)
                .faulty(1, "^x").due("net 0", 0).due("fault", -1).faulty(1, "^x").text(RINGS).due("fault", -1);
    }

    private void limits() {
        doc.term(3, "SITES 0, 1 .. (2 to 10; 4 without).").text("sites 2;").due("count 0", 2).text("sites 10;")
                .due("count 0", 10).text("").due("count 0", 4).text("cable 3 0 5;").due("count 0", 4)
                .faulty(2, "sites ^1;", "sites ^0;", "sites ^11;", "sites ^999;").due("count 0", 4);
        doc.term(3, "CABLES 0, 1 .. (at most 24)").text(CABLE.repeat(24)).due("count 1", 24).due("cable 23 2", 5)
                .faulty(2, CABLE.repeat(24) + "^" + CABLE).text("sites 2;").due("count 1", 0);
        doc.term(3, "each between two unlike SITES (its FIRST and its SECOND; more than one between the same may be)")
                .text("cable 0 1 5;cable 1 0 5;cable 0 1 5;").due("count 1", 3).dueEach("cable 1", 1, 0)
                .dueEach("cable 2", 0, 1).faulty(5, "cable 1 ^1 5;");
        doc.term(3, "with a PRICE (1 to 999)").text("cable 0 1 1;cable 0 1 999;").due("cable 0 2", 1)
                .due("cable 1 2", 999).faulty(2, "cable 0 1 ^0;", "cable 0 1 ^000;", "cable 0 1 ^1000;");
        doc.term(3, "of a FIRM (0 to 3), SOUND or BROKEN.").text("cable 0 1 5 0;cable 0 1 5 3;broken 1;")
                .due("cable 0 3", 0).due("cable 1 3", 3).due("cable 0 4", 1).due("cable 1 4", 0)
                .faulty(2, "cable 0 1 5 ^4;", "cable 0 1 5 ^999;");
        doc.term(3, "A TEXT of at most 700 bytes tells it.").text(" ".repeat(688) + CABLE).due("count 1", 1)
                .text("\n".repeat(700)).due("count 1", 0).faulty(1, " ".repeat(699) + "^;", "^" + "a".repeat(700),
                        CABLE + " ".repeat(687) + "^5").faulty(2, "sites ^" + "0".repeat(694));
    }

    private void tokens() {
        doc.term(4, "words (a .. z, the longest row)").faulty(1, "^cablez 0 1 5;", "^cablea 0 1 5;", "^acable 0 1 5;",
                "^zcable 0 1 5;", "^cablecable 0 1 5;", "^cabl 0 1 5;", "^c able 0 1 5;", "^sitessites 4;")
                .faulty(1, "cable^{0 1 5;", "cable^`0 1 5;", "^{cable 0 1 5;", "^`cable 0 1 5;", "cable^A 0 1 5;",
                        "cable^Z 0 1 5;", "^CABLE 0 1 5;", "cable^_ 0 1 5;");
        doc.term(4, "NUMBERS (1 to 3 digits)").right("sites 9;", "sites 04;", "sites 010;", "cable 000 001 009 003;")
                .faulty(1, "sites 4^/;", "sites 4^:;", "sites ^/4;", "sites ^:4;", "sites ^-4;", "sites ^+4;")
                .faulty(2, "sites ^0004;");
        doc.term(4, "the sign ; and blanks (32, 10) between them, which count for nothing.")
                .right("  \n sites\n5\n\n;\n cable 0\n1 5   2 ; ", "sites5;cable0 1 5;broken0;", " ", "\n")
                .text("  \n sites\n5\n\n;\n cable 0\n1 5   2 ; ").told("sites 5;cable 0 1 5 2;")
                .faulty(1, "cable^\t0 1 5;", "cable^\r0 1 5;", "cable^\u000b0 1 5;", "cable^\u001f0 1 5;",
                        "cable^!0 1 5;", "cable^\u00a00 1 5;", "^\u00000 1 5;", "^ca ble 0 1 5;", "sites 4^,")
                .faulty(2, "cable 0 1 5 ^5;");
    }

    private void clauses() {
        doc.term(4, "In quotes is what stands there, [ ] perhaps, * any number of times.").right("", " ", "sites 4;",
                CABLE, "cable 0 1 5 3;", "sites 10;" + "cable 9 8 999 3;".repeat(24) + everyBroken());
        doc.term(3, "(FIRM 0 without)").text("cable 0 1 5 3;cable 0 1 5;cable 0 1 5 1;cable 0 1 5;")
                .due("cable 0 3", 3).due("cable 1 3", 0).due("cable 2 3", 1).due("cable 3 3", 0);
    }

    private static String everyBroken() {
        StringBuilder text = new StringBuilder();
        for (int cable = 23; cable >= 0; cable--) {
            text.append("broken ").append(cable).append(";");
        }
        return text.toString();
    }

    private void whichFault() {
        doc.term(4, "FAULTS, the first along the text").faulty(5, "cable 0 ^0 5;x", "cable 0 ^0 1000;", "cable 0 ^0")
                .faulty(4, CABLE + "^sites 99;", CABLE + "^sites", CABLE + "^sites x;").faulty(3, "cable ^4 4 0;")
                .faulty(2, "cable 0 1 ^0;x", "cable ^10 10 0;").faulty(1, "sites^;cable 0 0 5;", "^x 0 0 0;");
        doc.term(4, "at a TOKEN's first byte").faulty(1, "sites 4;^brokenn 0;", "sites 4 ^12;")
                .faulty(2, "sites   ^1000;", "cable 0 1\n^1000;").faulty(3, "sites 8;cable 0 ^08 5;")
                .faulty(4, CABLE + "broken 0;broken ^000;").faulty(5, "cable 1  ^01 5;");
        doc.term(4, "of one TOKEN the least").faulty(1, "sites 4 ^1000;", "sites 4^sites;", "cable 0 1 5 1 ^9999;",
                CABLE + "cable ^sites;", CABLE.repeat(24) + "broken ^cable;", "cable 0 1^cable", "^1000;")
                .faulty(2, "cable ^10 0 5;", "cable 0 ^10 5;", "broken ^24;", "cable 0 ^0000 5;",
                        CABLE + "broken 0;broken ^0000;", "cable ^0009 0 5;");
    }

    private void fault1() {
        String words = "1 a TOKEN that can't stand there, or is none";
        doc.term(4, words).faulty(1, "^;", "^5;", "^site 4;", "^x", "sites 4;^;", "sites^;", "sites ^x;",
                "sites ^sites;", "sites 4 ^x;", "sites 4 ^4;", "sites 4 ^cable 0 1 5;");
        doc.term(4, words).faulty(1, "cable^;", "cable ^x 1 5;", "cable 0^;", "cable 0 ^x 5;", "cable 0 1^;",
                "cable 0 1 ^x;", "cable 0 1 5 ^x;", "cable 0 1 5 2 ^x;", "cable 0 1 5 2 ^2;",
                "cable 0 1 5 ^cable 0 1 5;", CABLE + "broken^;", CABLE + "broken ^x;", CABLE + "broken 0 ^0;",
                CABLE + "broken 0 ^x;");
        doc.term(4, words).faulty(1, "^\u0000", "^\u007f", "^\u0080", "^\u00ff", "^A", "^Z", "^-", "^\"", "^.",
                "sites ^\u00b2;", "sites 4^\u0000;", "sites 4^\u00ff;", "cable 0 1 5^.5;", "^'sites' 4;");
    }

    private void fault1Ends() {
        String words = "(the text's length where it ends too soon)";
        doc.term(4, words).faulty(1, "sites^", "sites 4^", "cable^", "cable 0^", "cable 0 1^", "cable 0 1 5^",
                "cable 0 1 5 3^", CABLE + "broken^", CABLE + "broken 0^");
        doc.term(4, words).faulty(1, "sites  ^", "sites 4\n^", "cable 0 1 5   ^", CABLE + " broken 0 \n ^",
                "sites 4" + " ".repeat(693) + "^");
        // The tape has more, but the text hasn't.
        doc.term(4, words).feed(CABLE).due("net 11", 1).due("fault", 11).feed(CABLE).due("net 6", 1).due("fault", 6)
                .feed(CABLE).due("net 4", 1).due("fault", 0).feed(CABLE).due("net 12", 0).due("fault", -1);
    }

    private void fault2() {
        doc.term(4, "2 one that can, but is too much: a NUMBER of 4 digits or more").faulty(2, "sites ^0004;",
                "sites ^1000;", "cable ^0000 1 5;", "cable 0 ^0001 5;", "cable 0 1 ^0005;", "cable 0 1 ^1000;",
                "cable 0 1 5 ^0000;", CABLE + "broken ^0000;", "cable 0 1 ^2147483648;", "cable 0 1 ^4294967297;",
                "cable 0 1 ^" + "1".repeat(600), "sites ^" + "0".repeat(600) + "4;")
                .right("sites 004;", "cable 000 001 005 000;broken 000;");
        doc.term(4, "or not as told (SITE 0 to 9, CABLE 0 to 23)").right("sites 10;cable 0 9 5;cable 9 0 5;",
                CABLE.repeat(24) + "broken 23;broken 0;")
                .faulty(2, "sites 10;cable ^10 0 5;", "sites 10;cable 0 ^10 5;", "sites 10;cable 0 ^999 5;",
                        CABLE.repeat(24) + "broken ^24;", "broken ^24;", "broken ^999;", "sites ^1;", "sites ^11;",
                        "cable 0 1 ^0;", "cable 0 1 5 ^4;");
        doc.term(4, "the word of the 25th 'cable'").right(CABLE.repeat(24)).faulty(2, CABLE.repeat(24) + "^" + CABLE,
                CABLE.repeat(24) + "^cable", CABLE.repeat(24) + "\n ^cable x", CABLE.repeat(24) + "broken 0;^cable 0 0")
                .faulty(1, CABLE.repeat(24) + "^cables");
    }

    private void fault3() {
        doc.term(4, "3 a SITE that there isn't").right("sites 2;cable 0 1 5;cable 1 0 5;", "cable 3 0 5;",
                "sites 9;cable 8 0 5;").faulty(3, "sites 2;cable ^2 0 5;", "sites 2;cable 0 ^2 5;", "cable ^4 0 5;",
                        "cable 0 ^4 5;", "cable 3 ^9 5;", "sites 9;cable 0 ^9 5;", "sites 9;cable ^9 9 5;");
        doc.term(4, "a CABLE that isn't told ahead").right(CABLE + "broken 0;", CABLE + CABLE + "broken 1;")
                .faulty(3, "broken ^0;", "broken ^23;", "sites 3;broken ^0;" + CABLE, CABLE + "broken ^1;",
                        CABLE + "broken ^1;" + CABLE, CABLE.repeat(23) + "broken ^23;");
    }

    private void fault4() {
        doc.term(4, "4 'sites' behind any other CLAUSE (a second one, too)").right(" sites 3;")
                .faulty(4, "sites 4;^sites 4;", "sites 3;^sites 4;", CABLE + "^sites 4;",
                        CABLE + "broken 0;^sites 4;", "sites 4;" + CABLE + "^sites 4;", CABLE + " \n ^sites");
        doc.term(4, "a CABLE that is BROKEN already").right(CABLE + CABLE + "broken 1;broken 0;")
                .faulty(4, CABLE + "broken 0;broken ^0;", CABLE + CABLE + "broken 0;broken 1;broken ^0;",
                        CABLE + "broken 0;" + CABLE + "broken 1;broken ^1;");
    }

    private void fault5() {
        doc.term(4, "5 the second SITE of a CABLE, if it is the first one.").right("cable 0 1 5;cable 1 0 5;")
                .faulty(5, "cable 0 ^0 5;", "cable 3 ^3 5;", "cable 03 ^003 5;", "sites 10;cable 9 ^9 5;",
                        CABLE + "cable 1 ^1 5;", "cable 2 ^2", "cable 0 ^0 0;");
    }
}
