import java.io.IOException;
import java.util.Random;

/** Each sentence that names a boundary case of the questions: promises 5 to 18. */
public final class QuestionBoundaryTests {
    private static final String NO_ELEMENT = Checks.NO_ELEMENT;
    private static final String NO_ARGUMENT = Checks.NO_ARGUMENT;
    private static final String RINGS = Checks.RINGS;
    private static final String LEAST = "-2147483648";
    private static final String MOST = "2147483647";
    private static final String CABLE = "cable 0 1 5;";
    /** As many cables as there may be, all between the same two sites, for the same price. */
    private static final String FULL = "sites 2;" + CABLE.repeat(24);
    /** THE NET is cables 0 to 8, one behind the other at the greatest price; cable 9 closes the ring. */
    private static final String LARGEST = largest();
    /** Two pieces, 0 1 and 2 3; the couples of cables are at 5 and 7. */
    private static final String PARTED = "cable 0 1 5;cable 0 1 7 1;cable 2 3 7 2;cable 2 3 5 2;";

    private final Sentences doc;

    private QuestionBoundaryTests(Sentences doc) {
        this.doc = doc;
    }

    private static String largest() {
        StringBuilder text = new StringBuilder("sites 10;");
        for (int site = 0; site < 10; site++) {
            text.append("cable ").append(site).append(' ').append((site + 1) % 10).append(" 999;");
        }
        return text.toString();
    }

    public static void main(String[] args) throws IOException {
        run();
        Checks.end("every boundary case of promises 5 to 18 holds");
    }

    static void run() throws IOException {
        Sentences doc = new Sentences(5, 18);
        QuestionBoundaryTests tests = new QuestionBoundaryTests(doc);
        tests.promise5Least();
        tests.promise5Most();
        tests.promise5Net();
        tests.promise5NextBest();
        tests.promise5HubAndLongest();
        tests.promise5Twins();
        tests.promise5Weak();
        tests.promise5Centre();
        tests.promise5Detours();
        tests.promise5Wrong();
        tests.promise6Ring();
        tests.promise6Cut();
        tests.promise6Bar();
        tests.promise6Loss();
        tests.promise6Wrong();
        tests.promise7();
        tests.promise8();
        tests.promise9();
        tests.promise9Alone();
        tests.promise10();
        tests.promise10Apart();
        tests.promise11();
        tests.promise12();
        tests.promise12Sets();
        tests.promise13();
        tests.promise14();
        tests.promise15();
        tests.promise16();
        tests.promise17();
        tests.promise18();
        tests.promise18Latest();
        doc.end();
    }

    private void promise5Least() {
        doc.promise(5, "0 SITES, 1 CABLES, 2 those that are SOUND (bits), 3 THE NET (bits), 4 TOTAL, 5 PIECES")
                .text("sites 2;").dueEach("count", 2, 0, 0, 0, 0, 2)
                .text("sites 2;cable 0 1 1;broken 0;").dueEach("count", 2, 1, 0, 0, 0, 2)
                .text("sites 2;cable 0 1 1;").dueEach("count", 2, 1, 1, 1, 1, 1)
                .text("sites 10;").dueEach("count", 10, 0, 0, 0, 0, 10);
    }

    private void promise5Most() {
        doc.promise(5, "0 SITES, 1 CABLES, 2 those that are SOUND (bits), 3 THE NET (bits), 4 TOTAL, 5 PIECES")
                .text(LARGEST).dueEach("count", 10, 10, 1023, 511, 8991, 1)
                .text(FULL).dueEach("count", 2, 24, 16777215, 1, 5, 1).due("price 23 4", 5).due("count 3", 8388608);
        doc.promise(5, "6 SWAPS that are there, 7 that were ever").text(FULL).due("count 6", 0).due("count 7", 0)
                .due("price 0 6", 5).due("count 6", 1).due("count 7", 1).due("undo", 0).due("count 6", 0)
                .due("count 7", 0);
        doc.promise(5, "14 bytes of the tape").due("count 14", 0).due("feed 0 0 0 0 0", 20).due("count 14", 20)
                .due("net 0", 0).due("count 14", 0).feed("x".repeat(700)).due("count 14", 700);
        doc.promise(5, "15 to 17 STATUS 0 to 2").due("price 0 1", -1).due("price 0 1", -1).due("note 0 true", -1)
                .due("count 15", 0).due("count 16", 2).due("count 17", 1).faulty(1, "^x").faulty(1, "^x")
                .faulty(1, "^x").due("count 15", 3).due("count 16", 2).due("count 17", 1);
    }

    private void promise5Net() {
        doc.term(5, "Of two CABLES that one is CHEAPER whose PRICE is less, of like ones that of the lesser number")
                .text("sites 2;cable 0 1 5;cable 0 1 5;").due("count 3", 1)
                .text("sites 2;cable 0 1 5;cable 0 1 4;").due("count 3", 2)
                .text("sites 2;cable 0 1 5;cable 1 0 6;").due("count 3", 1);
        doc.term(5, "which those taken ahead of it don't join (by themselves, one behind the other) is taken.")
                .text("cable 0 1 1;cable 1 2 1;cable 0 2 1;").due("count 3", 3)
                .text(LARGEST).due("count 3", 511).text("cable 0 1 1;cable 2 3 1;cable 1 2 1;cable 0 3 1;")
                .due("count 3", 7);
        doc.term(5, "PIECES: sets of SITES that THE NET joins (one alone is one, too).").due("count 5", 4)
                .text("cable 0 3 5;").due("count 5", 3).text(PARTED).due("count 5", 2).text(RINGS).due("count 5", 1);
    }

    private void promise5NextBest() {
        String words = "NEXT BEST: the least TOTAL of another set of SOUND CABLES that joins SITES to the same PIECES, "
                + "by as many CABLES as THE NET has; none.";
        doc.term(5, words).due("count 8", -1).text(CABLE).due("count 8", -1)
                .text("cable 0 1 5;cable 1 2 5;cable 2 3 5;").due("count 8", -1);
        doc.term(5, words).text("sites 2;cable 0 1 5;cable 0 1 6;broken 1;").due("count 8", -1)
                .text("sites 2;cable 0 1 5;cable 0 1 6;broken 0;").due("count 8", -1)
                .text("sites 2;cable 0 1 1;cable 0 1 999;").due("count 8", 999)
                .text("sites 2;cable 0 1 5;cable 0 1 7;cable 0 1 8;").due("count 8", 7)
                .text("sites 2;cable 0 1 8;cable 0 1 7;cable 0 1 5;").due("count 8", 7);
        // Another set for the same price is another one, too; and it is of the same pieces, not of fewer.
        doc.term(5, words).text(FULL).due("count 8", 5).text(LARGEST).due("count 8", 8991).text(PARTED)
                .due("count 8", 12);
    }

    private void promise5HubAndLongest() {
        doc.term(5, "HUB: the SITE at which the most CABLES of THE NET end (of like ones the first).").due("count 9", 0)
                .text("cable 2 3 5;").due("count 9", 2).text(RINGS).due("count 9", 1)
                .text("sites 10;cable 9 1 1;cable 9 2 1;cable 0 1 1;cable 9 3 1;").due("count 9", 9)
                .text("cable 0 1 5;cable 0 1 5;cable 0 1 5;cable 1 2 5;").due("count 9", 1)
                .text("cable 0 1 5;cable 0 1 5;cable 2 3 5;").due("count 9", 0);
        doc.term(5, "LONGEST: the greatest SPAN.").due("count 10", 0).text(CABLE).due("count 10", 5).text(LARGEST)
                .due("count 10", 8991).text("cable 0 1 5;cable 2 3 7;").due("count 10", 7);
    }

    private void promise5Twins() {
        String words = "TWINS: CABLES in THE NET as it is and as it would be if PRICES were 1000 less what they are (as "
                + "bits).";
        doc.term(5, words).due("count 11", 0).text("sites 2;cable 0 1 1;cable 0 1 999;").due("count 11", 0)
                .text("sites 2;cable 0 1 500;cable 0 1 500;").due("count 11", 1)
                .text("sites 2;cable 0 1 500;cable 0 1 501;").due("count 11", 0);
        doc.term(5, words).text(FULL).due("count 11", 1).text("sites 3;cable 0 1 1;cable 0 1 2;cable 1 2 999;")
                .due("count 11", 4).text("sites 2;cable 0 1 5;broken 0;").due("count 11", 0);
    }

    private void promise5Weak() {
        String words = "WEAK: couples of SOUND CABLES without both of which PIECES would be more, but not without "
                + "either one alone.";
        doc.term(5, words).due("count 18", 0).text(CABLE).due("count 18", 0)
                .text("sites 3;cable 0 1 5;cable 1 2 5;").due("count 18", 0).due("count 19", -1)
                .text("sites 2;cable 0 1 5;cable 0 1 5;").due("count 18", 1).due("count 19", 1)
                .text("sites 2;cable 0 1 5;cable 0 1 5;cable 0 1 5;").due("count 18", 0).due("count 19", -1)
                .text("sites 2;cable 0 1 5;cable 0 1 5;cable 0 1 5;broken 1;").due("count 18", 1).due("count 19", 2);
        doc.term(5, words).text(LARGEST).due("count 18", 45).due("count 19", 1).text(PARTED).due("count 18", 2)
                .due("count 19", 1).text(FULL).due("count 18", 0);
        // A bridge and a ring: the bridge makes no couple with any cable of the ring.
        doc.term(5, words).text("cable 2 3 5;cable 0 1 5;cable 1 2 5;cable 0 2 5;").due("count 18", 3)
                .due("count 19", 102);
        doc.promise(5, "100 times the lesser CABLE, and the greater one; by the lesser, then by the greater; NONE")
                .due("count 19", -1).text("sites 3;cable 0 1 5;cable 1 2 5;cable 1 2 5;cable 0 1 5;")
                .due("count 18", 2).due("count 19", 3).text(FULL + broken(22)).due("count 18", 1)
                .due("count 19", 2223);
    }

    private static String broken(int many) {
        StringBuilder text = new StringBuilder();
        for (int cable = 0; cable < many; cable++) {
            text.append("broken ").append(cable).append(';');
        }
        return text.toString();
    }

    private void promise5Centre() {
        doc.term(5, "CENTRE: the SITE whose greatest SPAN to any SITE of its PIECE is the least (of like ones the "
                + "first); RADIUS: that SPAN.").due("count 20", 0).due("count 21", 0)
                .text("sites 2;cable 0 1 5;").due("count 20", 0).due("count 21", 5)
                .text("sites 3;cable 0 1 5;cable 1 2 5;").due("count 20", 1).due("count 21", 5)
                .text("sites 3;cable 0 1 5;").due("count 20", 2).due("count 21", 0)
                .text("cable 0 1 5;cable 2 3 4;").due("count 20", 2).due("count 21", 4)
                .text("cable 0 1 5;cable 2 3 5;").due("count 20", 0).due("count 21", 5)
                .text(LARGEST).due("count 20", 4).due("count 21", 4995);
    }

    private void promise5Detours() {
        doc.term(5, "DETOURS: couples of SITES whose SPAN is more than their SHORT.").due("count 22", 0)
                .text("sites 3;cable 0 1 2;cable 1 2 3;cable 0 2 5;").due("count 22", 0)
                .text("sites 3;cable 0 1 2;cable 1 2 3;cable 0 2 4;").due("count 22", 1)
                .text("sites 3;cable 0 1 2;cable 1 2 3;cable 0 2 4;broken 2;").due("count 22", 0)
                .text("cable 0 1 5;cable 0 1 6;").due("count 22", 0)
                // Of two sites that lie apart by six cables or more in the large ring, the other way is shorter.
                .text(LARGEST).due("count 22", 10);
    }

    private void promise5Wrong() {
        doc.promise(5, "NoSuchElementException: another what.").dueAll(NO_ELEMENT, "count -1", "count 23", "count 24",
                "count " + LEAST, "count " + MOST).text(RINGS).dueAll(NO_ELEMENT, "count -1", "count 23")
                .due("count 0", 5).due("count 22", 3);
    }

    private void promise6Ring() {
        doc.term(6, "(Of a BROKEN CABLE there is none of these.)").text("sites 2;cable 0 1 5 2;cable 0 1 5;broken 0;")
                .dueEach("cable 0", 0, 1, 5, 2, 0, 0, 0, -1, 0, -1, -1, -1).due("ring 0 0", NO_ELEMENT)
                .due("breaks 1", 2).dueEach("cable 1", 0, 1, 5, 0, 0, 0, 0, -1, 0, -1, -1, -1);
        doc.promise(6, "6 CABLES of its RING (0: it has none)").text(CABLE).due("cable 0 6", 0)
                .text("cable 0 1 5;cable 1 0 5;").due("cable 0 6", 0).due("cable 1 6", 1).due("breaks 1", 3)
                .due("cable 1 6", 0).text(LARGEST).due("cable 9 6", 9).due("cable 8 6", 0);
        doc.promise(6, "7 DEAREST (NONE)").text(CABLE).due("cable 0 7", -1).due("breaks 0", 4).due("cable 0 7", -1)
                .text("cable 0 1 5;cable 1 0 5;").due("cable 0 7", -1).due("cable 1 7", 0)
                // Of cables at the same price that of the greater number is the dearer one.
                .text(LARGEST).due("cable 9 7", 8).text("sites 3;cable 0 1 5;cable 1 2 4;cable 0 2 6;")
                .due("cable 2 7", 0);
    }

    private void promise6Cut() {
        doc.term(6, "CUT of a CABLE inside: SITES that THE NET without it joins with its FIRST (this one, too).")
                .text("sites 2;cable 0 1 5;").due("cable 0 8", 1).text("sites 2;cable 1 0 5;").due("cable 0 8", 2)
                .text("sites 10;cable 9 0 5;").due("cable 0 8", 512).text(LARGEST).due("cable 0 8", 1)
                .due("cable 8 8", 511).due("cable 4 8", 31);
        doc.promise(6, "8 CUT (bits; 0: none)").text(LARGEST).due("cable 9 8", 0).due("breaks 0", 1)
                .due("cable 0 8", 0).due("cable 9 8", 512 + 510);
        doc.promise(6, "9 RIVAL (NONE)").text(CABLE).due("cable 0 9", -1)
                .text("sites 2;cable 0 1 5;cable 0 1 6;broken 1;").due("cable 0 9", -1).due("cable 1 9", -1)
                .text("sites 2;cable 0 1 5;cable 0 1 6;").due("cable 0 9", 1).due("cable 1 9", -1);
        doc.term(6, "RIVAL: the CHEAPEST other SOUND CABLE one end of which is in the CUT, and one isn't; none.")
                .text("sites 2;cable 0 1 5;cable 0 1 6;cable 1 0 6;").due("cable 0 9", 1).due("breaks 1", 1)
                .due("cable 0 9", 2).due("breaks 2", 1).due("cable 0 9", -1)
                .text("cable 0 1 5;cable 2 3 6;cable 2 3 7;").due("cable 0 9", -1).due("cable 1 9", 2)
                .text(LARGEST).due("cable 0 9", 9).due("cable 8 9", 9);
    }

    private void promise6Bar() {
        String words = "BAR: the greatest PRICE (1 to 999) by which, all else as it is, the CABLE would be in THE NET; "
                + "none.";
        doc.term(6, words).text(CABLE).due("cable 0 10", 999).due("breaks 0", 4).due("cable 0 10", -1)
                .text("sites 2;cable 0 1 999;").due("cable 0 10", 999);
        doc.term(6, words).text("sites 2;cable 0 1 1;cable 0 1 1;").due("cable 0 10", 1).due("cable 1 10", -1)
                .text("sites 2;cable 0 1 7;cable 0 1 1;").due("cable 0 10", 1).due("cable 1 10", 6)
                .text("sites 2;cable 0 1 2;cable 0 1 2;").due("cable 0 10", 2).due("cable 1 10", 1);
        doc.term(6, words).text("sites 2;cable 0 1 999;cable 0 1 999;").due("cable 0 10", 999).due("cable 1 10", 998)
                .text("sites 2;cable 0 1 999;cable 0 1 1;").due("cable 0 10", 1).due("cable 1 10", 998)
                .text("sites 2;cable 0 1 1;cable 0 1 999;").due("cable 0 10", 999).due("cable 1 10", -1);
    }

    private void promise6Loss() {
        doc.term(6, "LOSS: by how much TOTAL would be more, were it BROKEN (0 outside); none, if PIECES would be more.")
                .text(CABLE).due("cable 0 11", -1).text("sites 2;cable 0 1 5;cable 0 1 5;").due("cable 0 11", 0)
                .due("cable 1 11", 0).text("sites 2;cable 0 1 1;cable 0 1 999;").due("cable 0 11", 998)
                .due("cable 1 11", 0).text("sites 2;cable 0 1 1;cable 0 1 999;broken 1;").due("cable 0 11", -1);
        doc.promise(6, "11 LOSS (NONE: none; also of a BROKEN one).").text("cable 0 1 5;cable 0 1 5;broken 0;")
                .due("cable 0 11", -1).due("cable 1 11", -1).due("mend 0", 3).due("cable 0 11", 0);
    }

    private void promise6Wrong() {
        doc.promise(6, "NoSuchElementException: no such CABLE (as everywhere), another what.")
                .dueAll(NO_ELEMENT, "cable 0 0", "cable -1 0", "cable 0 12").text(CABLE)
                .dueAll(NO_ELEMENT, "cable 1 0", "cable -1 0", "cable 24 0", "cable 31 0", "cable 32 4",
                        "cable " + LEAST + " 0", "cable " + MOST + " 0", "cable 0 -1", "cable 0 12",
                        "cable 0 " + LEAST, "cable 0 " + MOST, "cable 1 12").due("cable 0 0", 0).due("cable 0 11", -1)
                .text(FULL).due("cable 23 5", 0).due("cable 24 5", NO_ELEMENT)
                .text(CABLE).due("lay 0 1 3 0", 1).due("cable 1 2", 3).due("undo", 0).due("cable 1 2", NO_ELEMENT);
    }

    private void promise7() {
        Checks test = doc.promise(7, "The i-th CABLE (0 on) of the RING of a CABLE, from its FIRST on.").text(LARGEST);
        for (int i = 0; i < 9; i++) {
            test.due("ring 9 " + i, 8 - i);
        }
        test.dueAll(NO_ELEMENT, "ring 9 9", "ring 9 -1", "ring 9 " + LEAST, "ring 9 " + MOST)
                .text("sites 2;cable 0 1 5;cable 1 0 5;").due("ring 1 0", 0).due("ring 1 1", NO_ELEMENT);
        doc.promise(7, "NoSuchElementException: also there is none.").text("sites 2;cable 0 1 5;cable 0 1 6;")
                .dueAll(NO_ELEMENT, "ring 0 0", "ring 0 -1", "ring 1 1", "ring 1 -1", "ring 2 0", "ring -1 0",
                        "ring " + LEAST + " 0", "ring " + MOST + " 0").due("ring 1 0", 0).due("breaks 1", 1)
                .due("ring 1 0", NO_ELEMENT).due("mend 1", 1).due("breaks 0", 1).due("ring 1 0", NO_ELEMENT)
                .due("ring 0 0", NO_ELEMENT);
        // Cable 0 is outside, but none of these is cable 0.
        doc.promise(7, "NoSuchElementException: also there is none.").text("sites 2;cable 0 1 6;cable 0 1 5;")
                .due("ring 0 0", 1).dueAll(NO_ELEMENT, "ring 24 0", "ring 31 0", "ring 32 0", "ring 64 0", "ring -32 0");
    }

    private void promise8() {
        Checks test = doc.promise(8, "The i-th CABLE (0 on) that is taken for THE NET.").text(LARGEST);
        for (int i = 0; i < 9; i++) {
            test.due("taken " + i, i);
        }
        test.due("price 8 1", 999).due("taken 0", 8).due("taken 8", 7).text(CABLE).due("taken 0", 0);
        doc.promise(8, "NoSuchElementException: there is none.").dueAll(NO_ELEMENT, "taken 0", "taken -1",
                "taken " + LEAST, "taken " + MOST).text(LARGEST).dueAll(NO_ELEMENT, "taken 9", "taken -1", "taken 24")
                .text(CABLE).due("taken 1", NO_ELEMENT).due("breaks 0", 4).due("taken 0", NO_ELEMENT);
    }

    private void promise9() {
        doc.promise(9, "CABLES of THE NET that end there (what 0)").due("site 0 0", 0)
                .text("sites 10;cable 0 1 1;cable 0 2 1;cable 0 3 1;cable 0 4 1;cable 0 5 1;cable 0 6 1;cable 0 7 1;"
                        + "cable 0 8 1;cable 9 0 1;cable 9 0 1;").due("site 0 0", 9).due("site 9 0", 1);
        doc.term(9, "LEAF of a SITE: whether one CABLE of THE NET ends there.").due("site 0 1", 0)
                .text("sites 3;cable 0 1 5;cable 1 2 5;cable 1 2 6;").dueEach("site 0", 1, 1).dueEach("site 1", 2, 0)
                .dueEach("site 2", 1, 1);
        doc.promise(9, "the least SITE of its PIECE (2)").due("site 0 2", 0).due("site 3 2", 3)
                .text("cable 3 1 5;").due("site 3 2", 1).due("site 1 2", 1).due("site 2 2", 2)
                .text(LARGEST).due("site 9 2", 0);
        doc.promise(9, "NoSuchElementException: no such SITE (as everywhere), another what.")
                .dueAll(NO_ELEMENT, "site 4 0", "site -1 0", "site 0 4", "site 0 -1", "site " + LEAST + " 0",
                        "site " + MOST + " 0", "site 0 " + LEAST, "site 0 " + MOST).due("site 3 3", -1)
                .text("sites 2;").due("site 1 0", 0).due("site 2 0", NO_ELEMENT)
                .text("sites 10;").due("site 9 0", 0).due("site 10 0", NO_ELEMENT);
    }

    private void promise9Alone() {
        String words = "none, if no SOUND one ends at it, or PIECES would be more.";
        doc.term(9, words).due("site 0 3", -1).text(CABLE).due("site 0 3", 0).due("site 1 3", 0).due("site 2 3", -1)
                .due("breaks 0", 4).due("site 0 3", -1);
        doc.term(9, words).text("sites 3;" + CABLE.repeat(24)).due("site 2 3", -1).due("site 0 3", 0)
                .text(FULL + broken(24)).due("site 0 3", -1).due("site 1 3", -1);
        doc.term(9, words).text("sites 3;cable 0 1 5;cable 1 2 5;").due("site 0 3", 0).due("site 1 3", -1)
                .text("sites 3;cable 0 1 5;cable 1 2 5;cable 0 2 9;").due("site 1 3", 4).due("price 2 999", 9)
                .due("site 1 3", 994).due("breaks 2", 1).due("site 1 3", -1);
        // Two cheapest ones at the same price: one of them alone stays, and the way behind the site is dearer.
        doc.term(9, "ALONE of a SITE: TOTAL, if of all CABLES that end at it the CHEAPEST SOUND one alone were SOUND")
                .text("cable 0 1 5;cable 0 2 5;cable 1 3 1;cable 2 3 8;").due("site 0 3", 3)
                .text("cable 0 1 5;cable 0 2 5;cable 1 3 1;cable 2 3 8;broken 0;").due("site 0 3", 0)
                .text("cable 0 1 5;cable 0 2 5;cable 1 3 1;").due("site 0 3", -1);
    }

    private void promise10() {
        doc.term(10, "NARROW of two SITES: the PRICE of the DEAREST CABLE on the way between them in THE NET (0: they "
                + "are one); none.").due("way 2 2 0", 0).due("way 0 1 0", -1).text(LARGEST).due("way 0 9 0", 999)
                .due("way 9 9 0", 0).text("sites 3;cable 0 1 1;cable 1 2 2;").due("way 0 2 0", 2).due("way 1 0 0", 1);
        doc.term(10, "SPAN of two SITES: PRICES on that way together; none.").due("way 2 2 1", 0).due("way 0 1 1", -1)
                .text(LARGEST).due("way 0 9 1", 8991).due("way 9 0 1", 8991).due("way 9 9 1", 0);
        doc.promise(10, "CABLES on the way (2; NONE)").due("way 2 2 2", 0).due("way 0 1 2", -1).text(LARGEST)
                .due("way 0 9 2", 9).due("way 4 4 2", 0).due("way 4 5 2", 1);
        doc.term(10, "SHORT of two SITES: the least PRICES together of SOUND CABLES on a way between them (0: they are "
                + "one); none.").due("way 2 2 3", 0).due("way 0 1 3", -1).text(LARGEST).due("way 0 9 3", 999)
                .due("way 0 5 3", 4995).due("way 0 6 3", 3996).due("breaks 9", 1).due("way 0 9 3", 8991)
                .due("breaks 0", 2).due("way 0 9 3", -1);
        doc.promise(10, "NoSuchElementException: also another what.").dueAll(NO_ELEMENT, "way 0 1 5", "way 0 1 -1",
                "way 0 0 5", "way 0 1 " + LEAST, "way 0 1 " + MOST, "way 0 4 0", "way 4 0 0", "way 4 4 0",
                "way -1 0 0", "way 0 -1 0", "way -1 -1 4", "way " + LEAST + " 0 0", "way 0 " + MOST + " 3")
                .due("way 3 3 4", 0).text("sites 10;").due("way 9 9 0", 0).due("way 9 10 0", NO_ELEMENT);
    }

    private void promise10Apart() {
        doc.term(10, "APART of two SITES: the most ways of SOUND CABLES between them, no CABLE being on two of these "
                + "(0: they are one).").due("way 2 2 4", 0).due("way 0 1 4", 0).text(FULL).due("way 0 1 4", 24)
                .due("way 1 0 4", 24).due("way 1 1 4", 0).due("breaks 23", 1).due("way 0 1 4", 23)
                .text(LARGEST).due("way 0 9 4", 2).due("way 0 5 4", 2).due("breaks 3", 1).due("way 0 5 4", 1)
                .due("breaks 9", 2).due("way 0 5 4", 0);
        // As many ways as cables end at either site: a cable that one way gave back is on another one later.
        doc.term(10, "the most ways of SOUND CABLES between them, no CABLE being on two of these")
                .text("sites 5;cable 0 1 1;cable 3 1 1;cable 3 4 1;cable 0 3 1;cable 3 0 1;cable 4 1 1;cable 0 3 1;"
                        + "cable 1 4 1;cable 2 3 1;cable 2 4 1;").due("way 0 4 4", 4).due("way 4 0 4", 4)
                .text("sites 6;cable 4 0 1;cable 0 2 1;cable 3 2 1;cable 3 0 1;cable 5 0 1;cable 3 0 1;cable 2 4 1;"
                        + "cable 2 4 1;").due("way 4 3 4", 3).due("way 3 4 4", 3);
    }

    private void promise11() {
        doc.promise(11, "its SOUND CABLES (bits; what 0), PRICES of those in THE NET together (1), PAY (2; NONE).")
                .dueEach("firm 3", 0, 0, 0).text(FULL).dueEach("firm 0", 16777215, 5, -1).dueEach("firm 1", 0, 0, 0)
                .text("sites 2;cable 0 1 5 3;broken 0;").dueEach("firm 3", 0, 0, 0)
                .text(LARGEST).dueEach("firm 0", 1023, 8991, -1);
        doc.term(11, "less what THE NET costs of other FIRMS now; none, if PIECES would be more.").text(PARTED)
                .dueEach("firm 0", 1, 5, 7).dueEach("firm 1", 2, 0, 0).dueEach("firm 2", 12, 5, -1)
                .due("breaks 1", 2).dueEach("firm 0", 1, 5, -1).due("breaks 0", 3).dueEach("firm 0", 0, 0, 0);
        doc.promise(11, "NoSuchElementException: no such FIRM, another what.").text(RINGS)
                .dueAll(NO_ELEMENT, "firm -1 0", "firm 4 0", "firm 0 -1", "firm 0 3", "firm 4 3", "firm " + LEAST + " 0",
                        "firm " + MOST + " 0", "firm 0 " + LEAST, "firm 0 " + MOST).due("firm 3 0", 16);
    }

    private void promise12() {
        doc.term(12, "SHARE of a SITE: the PRICE of the first CABLE on its way to SITE 0 in THE NET (0 of SITE 0); none.")
                .due("share 0", 0).due("share 1", -1).text(LARGEST).due("share 0", 0).due("share 9", 999)
                .text("sites 3;cable 0 1 5;cable 1 2 7;").dueEach("share", 0, 5, 7).due("breaks 0", 2)
                .dueEach("share", 0, -1, -1);
        doc.promise(12, "SHARE; NONE: none. NoSuchElementException.").dueAll(NO_ELEMENT, "share 4", "share -1",
                "share " + LEAST, "share " + MOST).due("share 3", -1).text("sites 2;").due("share 2", NO_ELEMENT)
                .text("sites 10;").due("share 9", -1).due("share 10", NO_ELEMENT);
    }

    /** The sentence is of any text: here by chance, always the same ones, and of every set of sites. */
    private void promise12Sets() {
        String words = "(No set of SITES has more SHARES together than the cheapest net of it and SITE 0 alone costs.)";
        doc.term(12, words);
        Random random = new Random(12);
        for (int text = 0; text < 60; text++) {
            int sites = 2 + random.nextInt(7);
            int[][] cables = new int[random.nextInt(20)][];
            for (int i = 0; i < cables.length; i++) {
                int first = random.nextInt(sites);
                int second = (first + 1 + random.nextInt(sites - 1)) % sites;
                cables[i] = new int[] {first, second, 1 + random.nextInt(12)};
            }
            compareSets(words, sites, cables);
        }
    }

    private static void compareSets(String words, int sites, int[][] cables) {
        CableKeeper keeper = new CableKeeper();
        StringBuilder text = new StringBuilder("sites " + sites + ";");
        for (int[] each : cables) {
            text.append("cable ").append(each[0]).append(' ').append(each[1]).append(' ').append(each[2]).append(';');
        }
        Calls calls = new Calls(keeper);
        for (String feed : Calls.feeds(text.toString())) {
            calls.answer(feed);
        }
        keeper.net(text.length());
        int[] shares = new int[sites];
        for (int site = 0; site < sites; site++) {
            shares[site] = keeper.share(site);
        }
        for (int set = 1; set < 1 << sites; set += 2) {
            int cost = costOfNet(set, sites, cables);
            int together = 0;
            for (int site = 0; site < sites; site++) {
                together += (set >> site & 1) == 1 ? shares[site] : 0;
            }
            if (cost >= 0 && together > cost) {
                Checks.fail("promise 12, \"" + words + "\": " + text + " has more for the set " + set);
            }
        }
    }

    /** Of the cheapest net of these sites alone; -1 where there is none. */
    private static int costOfNet(int set, int sites, int[][] cables) {
        int reached = 1;
        int cost = 0;
        for (int step = 0; step < sites && reached != set; step++) {
            int best = -1;
            for (int i = 0; i < cables.length; i++) {
                int ends = 1 << cables[i][0] | 1 << cables[i][1];
                boolean leaves = (ends & set) == ends && Integer.bitCount(ends & reached) == 1;
                if (leaves && (best < 0 || cables[i][2] < cables[best][2])) {
                    best = i;
                }
            }
            if (best < 0) {
                return -1;
            }
            reached |= 1 << cables[best][0] | 1 << cables[best][1];
            cost += cables[best][2];
        }
        return cost;
    }

    private void promise13() {
        doc.term(13, "GROUPS for k (1 to SITES): THE NET without its DEAREST CABLES, one after the other, till there are "
                + "k PIECES or more").text("sites 3;cable 0 1 5;cable 1 2 5;").due("group 1 2", 0).due("group 2 2", 2)
                .due("group 2 1", 0).due("group 3 1", 1).due("group 3 2", 2).text(PARTED).due("group 1 3", 2)
                .due("group 2 3", 2).due("group 3 3", 3).due("group 3 1", 0).due("group 4 1", 1)
                .text(LARGEST).due("group 1 9", 0).due("group 2 9", 9).due("group 2 8", 0).due("group 10 1", 1);
        doc.term(13, "GAP: the PRICE of the CHEAPEST CABLE that was taken out (0: none was).").due("group 1 -1", 0)
                .due("group 4 -1", 0).text("sites 3;cable 0 1 5;cable 1 2 9;").due("group 1 -1", 0)
                .due("group 2 -1", 9).due("group 3 -1", 5).text(PARTED).due("group 1 -1", 0).due("group 2 -1", 0)
                .due("group 3 -1", 5).due("group 4 -1", 5).text(LARGEST).due("group 10 -1", 999);
        doc.promise(13, "IllegalArgumentException: not 1 to SITES.").dueAll(NO_ARGUMENT, "group 0 0", "group 5 0",
                "group -1 0", "group 0 -1", "group 5 -1", "group " + LEAST + " 0", "group " + MOST + " 0")
                .text("sites 2;").due("group 2 1", 1).due("group 3 1", NO_ARGUMENT)
                .text("sites 10;").due("group 10 9", 9).due("group 11 9", NO_ARGUMENT);
        doc.promise(13, "NoSuchElementException (behind that).").dueAll(NO_ELEMENT, "group 1 4", "group 4 4",
                "group 1 -2", "group 1 " + LEAST, "group 1 " + MOST)
                .dueAll(NO_ARGUMENT, "group 0 4", "group 5 -2", "group 5 " + MOST).due("group 1 3", 3);
    }

    private void promise14() {
        doc.term(14, "WITHOUT a SITE: were all CABLES that end at it BROKEN: TOTAL; PIECES but for it.")
                .dueEach("without 0", 0, 3).text("sites 2;cable 0 1 5;").dueEach("without 0", 0, 1)
                .dueEach("without 1", 0, 1).text("sites 3;cable 0 1 5;cable 1 2 7;").dueEach("without 1", 0, 2)
                .dueEach("without 0", 7, 1).text(LARGEST).dueEach("without 0", 7992, 1).dueEach("without 5", 7992, 1)
                .text("sites 3;cable 0 1 5;cable 1 2 7;cable 0 2 9;broken 2;").dueEach("without 1", 0, 2);
        doc.promise(14, "NoSuchElementException: also another what.").dueAll(NO_ELEMENT, "without 0 2", "without 0 -1",
                "without 0 " + LEAST, "without 0 " + MOST, "without 4 0", "without -1 0", "without " + LEAST + " 0",
                "without " + MOST + " 0", "without 4 2").due("without 3 1", 3)
                .text("sites 10;").due("without 9 1", 9).due("without 10 1", NO_ELEMENT);
    }

    private void promise15() {
        String words = "by as many CABLES as THE NET has, at the same TOTAL (THE NET is one).";
        doc.term(15, words).due("alike", 1).text(CABLE).due("alike", 1).due("breaks 0", 4).due("alike", 1)
                .text("sites 2;cable 0 1 5;cable 0 1 6;").due("alike", 1).due("price 1 5", 6).due("alike", 2)
                .due("breaks 0", 1).due("alike", 1);
        doc.term(15, words).text(FULL).due("alike", 24).text(LARGEST).due("alike", 10).text(PARTED).due("alike", 1)
                .text("cable 0 1 5;cable 0 1 5;cable 2 3 5;cable 2 3 5;").due("alike", 4);
        // Four sites each joined with six others, as many cables as there may be: 4^5 * 6^3 nets.
        StringBuilder most = new StringBuilder("sites 10;");
        for (int cable = 0; cable < 24; cable++) {
            most.append("cable ").append(cable % 4).append(' ').append(4 + cable / 4).append(" 7;");
        }
        doc.term(15, words).text(most.toString()).due("alike", 221184).due("price 0 8", 7).due("alike", 221184 * 15 / 24);
    }

    private void promise16() {
        doc.term(16, "(numbers without needless 0s)").text("sites 002;cable 00 001 007 03;cable 1 0 099 00;broken 000;")
                .told("sites 2;cable 0 1 7 3;cable 1 0 99 0;broken 0;")
                .text("sites 010;cable 9 8 100;cable 8 9 10;cable 8 9 999;").told("sites 10;cable 9 8 100 0;"
                        + "cable 8 9 10 0;cable 8 9 999 0;");
        doc.term(16, "then of each BROKEN one \"broken \", its number").text("sites 2;").told("sites 2;")
                .text(CABLE + "broken 0;" + CABLE).told("sites 4;cable 0 1 5 0;cable 0 1 5 0;broken 0;")
                .due("mend 0", 3).told("sites 4;cable 0 1 5 0;cable 0 1 5 0;");
        String longest = "sites 10;" + "cable 9 8 999 3;".repeat(24) + broken(24);
        doc.promise(16, "TOLD: how many bytes (i NONE), the i-th (0 on).").text(longest).due("told -1", 623)
                .told(longest);
        doc.promise(16, "TOLD: how many bytes (i NONE), the i-th (0 on).").text(longest)
                .told(longest, Checks.MOST_TOLD);
        doc.promise(16, "NoSuchElementException: there is none.").due("told -1", 8).due("told 0", (int) 's')
                .due("told 7", (int) ';').dueAll(NO_ELEMENT, "told 8", "told -2", "told " + LEAST, "told " + MOST)
                .text(longest).due("told 622", (int) ';').dueAll(NO_ELEMENT, "told 623", "told 700", "told -2");
    }

    private void promise17() {
        doc.term(17, "by which all of them are joined (over any SITES); none (0 of one or none).").due("joined 0", 0)
                .due("joined 1", 0).due("joined 8", 0).due("joined 3", -1).due("joined 15", -1)
                .text("cable 0 3 5;cable 3 2 7;").due("joined 5", 12).due("joined 3", -1).due("joined 2", 0)
                .text(LARGEST).due("joined 1023", 8991).due("joined 513", 999).due("joined 512", 0)
                .due("joined 33", 4995).due("joined 545", 4995).text(PARTED).due("joined 3", 5).due("joined 12", 5)
                .due("joined 6", -1).due("joined 15", -1).due("breaks 0", 2).due("joined 3", 7);
        doc.promise(17, "IllegalArgumentException: below 0, or others than there are.").due("joined 15", -1)
                .dueAll(NO_ARGUMENT, "joined -1", "joined 16", "joined 17", "joined " + LEAST, "joined " + MOST)
                .text("sites 2;").due("joined 3", -1).due("joined 4", NO_ARGUMENT)
                .text("sites 10;").due("joined 1023", -1).dueAll(NO_ARGUMENT, "joined 1024", "joined 1025", "joined -1");
    }

    private void promise18() {
        doc.promise(18, "Of a SWAP so many ago (0: the latest)").text("sites 2;cable 0 1 5;cable 0 1 6;")
                .due("price 0 7", 5).due("price 0 5", 7).dueEach("swap 0", 2, 0, 1, 0, 5).dueEach("swap 1", 1, 0, 0, 1, 6);
        doc.promise(18, "OUT (2; NONE), IN (3; NONE), TOTAL then (4).").text("sites 2;cable 0 1 5;").due("breaks 0", 2)
                .dueEach("swap 0", 3, 0, 0, -1, 0).due("mend 0", 1).dueEach("swap 0", 4, 0, -1, 0, 5)
                .due("lay 0 1 4 0", 1).dueEach("swap 0", 5, 1, 0, 1, 4)
                .text(LARGEST).due("breaks 0", 1).dueEach("swap 0", 3, 0, 0, 9, 8991)
                .text(FULL).due("price 23 4", 5).dueEach("swap 0", 2, 23, 0, 23, 4);
        doc.promise(18, "NoSuchElementException: there is none, another what.").dueAll(NO_ELEMENT, "swap 0 0",
                "swap -1 0", "swap 0 5").text("sites 2;cable 0 1 5;").due("breaks 0", 2)
                .dueAll(NO_ELEMENT, "swap 1 0", "swap -1 0", "swap 0 5", "swap 0 -1", "swap " + LEAST + " 0",
                        "swap " + MOST + " 0", "swap 0 " + LEAST, "swap 0 " + MOST, "swap 1 5").due("swap 0 0", 3)
                .due("undo", 0).due("swap 0 0", NO_ELEMENT);
    }

    /** Of two cables one breaks and is mended in turn: each time there is a swap. */
    private void promise18Latest() {
        Checks test = doc.term(18, "The latest 60 SWAPS are there").text("sites 2;cable 0 1 5;cable 0 1 6;");
        for (int swaps = 1; swaps <= 62; swaps++) {
            test.due(swaps % 2 == 1 ? "breaks 0" : "mend 0", 1).due("count 6", Math.min(swaps, 60)).due("count 7", swaps);
        }
        test.due("swap 59 0", 3).due("swap 59 4", 6).dueAll(NO_ELEMENT, "swap 60 0", "swap 61 0").due("swap 0 0", 4)
                .due("undo", 39).due("count 6", 60).due("count 7", 61).due("swap 59 0", 4).due("undo", 38)
                .due("count 6", 60).due("swap 59 0", 3).due("undo", 37).due("count 6", 59)
                .due("swap 59 0", NO_ELEMENT).due("swap 58 0", 3);
    }
}
