import java.io.IOException;

/**
 * The document from its first line: each sentence that the boundary tests leave, so that no word down to its last
 * promise is without a test. Most are asked of RINGS, whose answers can be reckoned by hand.
 */
public final class DocumentTests {
    private static final String RINGS = Checks.RINGS;
    private static final String RINGS_TOLD =
            "sites 5;cable 0 1 4 1;cable 1 2 4 0;cable 0 2 4 2;cable 2 3 7 1;cable 3 4 2 3;cable 2 4 9 0;";

    private final Sentences doc;

    private DocumentTests(Sentences doc) {
        this.doc = doc;
    }

    public static void main(String[] args) throws IOException {
        TextBoundaryTests.run();
        QuestionBoundaryTests.run();
        ActBoundaryTests.run();
        DocumentTests tests = new DocumentTests(new Sentences(1, 31));
        tests.whatItIs();
        tests.whatThereIs();
        tests.texts();
        tests.net();
        tests.changes();
        tests.acts();
        tests.ringAndFirm();
        tests.sitesTogether();
        tests.netsAndTexts();
        tests.noted();
        tests.years();
        tests.status();
        tests.counts();
        tests.ofOne();
        tests.ofMore();
        Sentences.failUnquoted();
        Checks.end("no sentence is without a test, and each one holds");
    }

    private void whatItIs() {
        doc.use(18, "A keeper of the cheapest net of cables between sites: prices that rise and fall, cables that break, are "
                + "mended, are laid anew; each change swaps one cable for another one at the most, and a row tells what "
                + "went, what came and why.").text(RINGS).due("count 3", 27).due("price 3 10", 7)
                .dueEach("swap 0", 1, 3, 3, 5, 19).due("count 3", 51).due("price 3 8", 10)
                .dueEach("swap 0", 2, 3, 5, 3, 18).due("breaks 0", 1).dueEach("swap 0", 3, 0, 0, 2, 18)
                .due("mend 0", 1).dueEach("swap 0", 4, 0, 2, 0, 18).due("lay 0 4 3 0", 6)
                .dueEach("swap 0", 5, 6, 3, 6, 13).due("count 3", 83).due("count 6", 5);
    }

    private void whatThereIs() {
        doc.term(5, "Of each cable outside the ring in which it is the dearest, of each inside the cut over which it is "
                + "the cheapest; up to which price it stays or comes; the next best net, what is lost with a cable, the "
                + "narrowest price between two sites, what a firm is worth, the cheapest way to join some sites alone, "
                + "hubs and lengths, cables in two nets; what price it was by what was noted, where to look next; years "
                + "by a seed; acts undone, an image.").text(RINGS).dueEach("ring 5", 3, 4).due("cable 3 8", 7)
                .due("cable 3 9", 5).due("cable 3 10", 9).due("cable 5 10", 6).due("count 8", 17).due("cable 3 11", 2)
                .due("way 0 4 0", 7).due("firm 1 2", 13).due("joined 17", 13).due("count 9", 1).due("count 10", 17)
                .due("count 11", 11).due("look 3", 5).due("note 3 false", 1).dueEach("fits 3", 990, 10)
                .due("years 3 5 0", 7).due("image", "").due("price 3 9", 7).due("count 3", 27).due("price 3 10", 9)
                .due("count 3", 51).due("undo", 1).due("count 3", 27).due("restore", 1).due("cable 3 2", 7);
    }

    private void texts() {
        doc.term(3, "TOKENS: words (a .. z, the longest row), NUMBERS (1 to 3 digits), the sign ; and blanks")
                .text("sites 5;cable 0 1 5 2;broken 0;").told("sites 5;cable 0 1 5 2;broken 0;")
                .text("sites\n5;  cable0 1 5\n\n2 ;broken   0; ").told("sites 5;cable 0 1 5 2;broken 0;");
        doc.term(3, "TEXT: CLAUSE*. CLAUSE: ('sites' NUMBER | 'cable' SITE SITE PRICE [FIRM] | 'broken' CABLE) ';'")
                .text("cable 0 1 5;broken 0;cable 3 2 12 1;cable 1 3 999 3;broken 2;cable 2 0 1;")
                .told("sites 4;cable 0 1 5 0;cable 3 2 12 1;cable 1 3 999 3;cable 2 0 1 0;broken 0;broken 2;")
                .text("sites 3;").told("sites 3;").text("broken 0;", 3, 7);
        doc.term(3, "All in capitals are NUMBERS.").faulty(1, "sites ^sites;", "cable ^a 1 5;", "cable 0 ^b 5;",
                "cable 0 1 ^price;", "cable 0 1 5 ^firm;", "cable 0 1 5;broken ^cable;", "cable ^; 1 5;");
        doc.term(4, "The constants: `NONE = -1`: There is none.").due("fault", CableKeeper.NONE)
                .due("count 8", CableKeeper.NONE).due("undo", CableKeeper.NONE).due("told " + CableKeeper.NONE, 8)
                .due("fault", -1);
    }

    private void net() {
        doc.term(6, "of like ones that of the lesser number; the other one is DEARER.").text(RINGS)
                .due("cable 2 7", 1).due("price 0 5", 4).due("cable 0 7", 2).due("price 1 6", 4).due("cable 1 7", 0);
        doc.term(8, "THE NET: SOUND CABLES are looked at, the CHEAPEST first, the next CHEAPEST then, and on; each that "
                + "joins two SITES which those taken ahead of it don't join").text(RINGS)
                .dueEach("taken", 4, 0, 1, 3).due("count 3", 27).due("breaks 4", 1).dueEach("taken", 0, 1, 3, 5)
                .due("price 5 1", 9).dueEach("taken", 5, 0, 1, 3).due("price 2 3", 4).dueEach("taken", 5, 2, 0, 3);
        doc.term(5, "TOTAL: PRICES of THE NET together.").text(RINGS).due("count 4", 2 + 4 + 4 + 7).due("breaks 4", 1)
                .due("count 4", 4 + 4 + 7 + 9).due("breaks 3", 2).due("count 4", 4 + 4 + 9);
    }

    private void changes() {
        doc.term(18, "CHANGES, by which THE NET becomes what it is then: WHY 1 a SOUND CABLE is DEARER, by its PRICE, 2 "
                + "CHEAPER, 3 it BREAKS, 4 it is MENDED, 5 it is LAID.").text(RINGS)
                .due("price 0 5", 4).dueEach("swap 0", 1, 0, 0, 2, 17).due("count 3", 30)
                .due("price 0 3", 5).dueEach("swap 0", 2, 0, 2, 0, 16).due("count 3", 27)
                .due("breaks 3", 1).dueEach("swap 0", 3, 3, 3, 5, 18).due("count 3", 51)
                .due("mend 3", 1).dueEach("swap 0", 4, 3, 5, 3, 16).due("count 3", 27)
                .due("lay 1 4 1 2", 6).dueEach("swap 0", 5, 6, 3, 6, 10).due("count 3", 83).due("count 6", 5);
        doc.term(18, "If any does, there is a SWAP: WHY, the CABLE that was changed, which went OUT (or none), which "
                + "came IN (or none), TOTAL then.").text("sites 3;cable 0 1 5;cable 1 2 7;").due("price 0 9", 5)
                .due("count 6", 0).due("breaks 0", 2).dueEach("swap 0", 3, 0, 0, -1, 7).due("mend 0", 1)
                .dueEach("swap 0", 4, 0, -1, 0, 16).due("lay 0 2 999 0", 2).due("count 6", 2).due("breaks 1", 1)
                .dueEach("swap 0", 3, 1, 1, 2, 9 + 999).due("count 6", 3);
    }

    private void acts() {
        Checks test = doc.term(24, "a PRICE is told; a FIRM's PRICES go up or down").text(RINGS);
        test.due("price 0 6", 4).due("count 12", 1).due("all 1 50", 2 + 4 + 4 + 9).due("count 12", 2)
                .due("cable 0 2", 9).due("cable 3 2", 10).due("all 1 -50", 2 + 4 + 4 + 5).due("count 12", 3)
                .due("cable 0 2", 4).due("cable 3 2", 5).due("undo", 2).due("cable 0 2", 9).due("undo", 1)
                .due("cable 0 2", 6).due("cable 3 2", 7).due("undo", 0).told(RINGS_TOLD);
        doc.term(24, "a CABLE BREAKS, is MENDED, is LAID as the last one, SOUND.").text(RINGS).due("breaks 2", 1)
                .due("count 12", 1).due("mend 2", 1).due("count 12", 2).due("lay 0 4 1 3", 6).due("count 12", 3)
                .dueEach("cable 6", 0, 4, 1, 3, 1, 1).due("undo", 2).due("count 1", 6).due("undo", 1)
                .due("cable 2 4", 0).due("undo", 0).told(RINGS_TOLD);
    }

    private void ringAndFirm() {
        doc.term(7, "RING of a CABLE outside THE NET: CABLES of THE NET on the way from its FIRST to its SECOND.")
                .text(RINGS).dueEach("ring 2", 0, 1).dueEach("ring 5", 3, 4).due("lay 4 0 50 0", 6)
                .dueEach("ring 6", 4, 3, 1, 0).due("cable 6 6", 4);
        doc.term(6, "DEAREST: that of its RING.").text(RINGS).due("cable 2 7", 1).due("cable 5 7", 3)
                .due("lay 4 0 50 0", 6).due("cable 6 7", 3).due("price 4 8", 2).due("cable 6 7", 4);
        doc.term(11, "PAY of a FIRM: TOTAL, were all its SOUND CABLES BROKEN, less what THE NET costs of other FIRMS now")
                .text(RINGS).due("firm 0 2", 17 - 13).due("firm 1 2", 19 - 6).due("firm 2 2", 0)
                .due("firm 3 2", 24 - 15);
    }

    private void sitesTogether() {
        doc.term(17, "JOINED of a set of SITES (bits): the least PRICES together of SOUND CABLES by which all of them "
                + "are joined (over any SITES)").text(RINGS).due("joined 5", 4).due("joined 20", 9).due("joined 17", 13)
                .due("joined 10", 11).due("joined 7", 8).due("joined 31", 17)
                .text("cable 0 3 5;cable 1 3 5;cable 2 3 5;cable 0 1 9;cable 1 2 9;").due("joined 7", 15)
                .due("joined 3", 9).due("joined 5", 10);
        doc.term(13, "GROUP of a SITE: the least one it is joined with then").text(RINGS)
                .dueEach("group 1", 0, 0, 0, 0, 0).dueEach("group 2", 0, 0, 0, 3, 3).dueEach("group 3", 0, 0, 2, 3, 3)
                .dueEach("group 4", 0, 1, 2, 3, 3).dueEach("group 5", 0, 1, 2, 3, 4);
        doc.term(9, "ALONE of a SITE: TOTAL, if of all CABLES that end at it the CHEAPEST SOUND one alone were SOUND, "
                + "less TOTAL; none, if no SOUND one ends at it, or PIECES would be more.").text(RINGS)
                .due("site 0 3", 0).due("site 1 3", 0).due("site 2 3", -1).due("site 3 3", 19 - 17).due("site 4 3", 0)
                .due("breaks 4", 1).due("site 3 3", 0).due("breaks 3", 2).due("site 3 3", -1);
    }

    private void netsAndTexts() {
        doc.term(15, "LIKE NETS: how many sets of SOUND CABLES there are that join SITES to the same PIECES")
                .text(RINGS).due("alike", 3).due("price 5 7", 9).due("alike", 6).due("breaks 0", 1).due("alike", 2);
        doc.term(16, "TOLD is a TEXT: \"sites \", how many, \";\", of each CABLE by numbers \"cable \", its FIRST, "
                + "SECOND, PRICE, FIRM, a blank between each two, \";\"").text(RINGS).told(RINGS_TOLD)
                .text(RINGS_TOLD).told(RINGS_TOLD).due("count 3", 27);
    }

    private void noted() {
        // Cable 2 comes in when cable 1 costs more than it, cable 3 goes out when it costs more than cable 5.
        doc.term(26, "NOTED (at most 8): that a CABLE is in THE NET, or that it isn't.").text(RINGS)
                .due("note 2 true", 1).dueEach("fits 1", 995, 5).dueEach("fits 3", 0, -1).due("forget", "")
                .due("note 3 false", 1).dueEach("fits 3", 990, 10).dueEach("fits 1", 0, -1);
        doc.term(26, "all NOTED would be so: how many; the least.").text(RINGS).due("note 4 true", 1)
                .due("note 5 false", 2).dueEach("fits 5", 993, 7).dueEach("fits 4", 9, 1).due("note 3 true", 3)
                .dueEach("fits 3", 9, 1).due("note 3 false", 4).dueEach("fits 3", 0, -1);
    }

    /**
     * What the seeds draw, by a script apart from the class. 3: cable 3 up by 13, 0 down by 9, 3 up by 18, 5 breaks, 3
     * breaks. 7: cable 2 down by 17, 5 down by 17, 2 up by 11, 5 up by 5, 2 breaks. 2026: cable 0 down by 16, 2 breaks,
     * 2 is mended, 3 down by 7, 2 up by 4.
     */
    private void years() {
        String words = "YEARS by a seed: n times (0 to 60): a DRAW of 8: 0 to 5 a PRICE: of a DRAW of CABLES, a DRAW of "
                + "41, less 20, more, put to 1 .. 999; 6, 7 a DRAW of CABLES BREAKS, if it is SOUND, else is MENDED "
                + "(without CABLES nothing is drawn behind): TOTAL then; how many SWAPS there were in it; PIECES then.";
        passing(doc.term(29, words).text(RINGS), 3, "17 0 1", "19 1 1", "16 1 1", "16 1 1", "45 2 1", "7 3 2");
        passing(doc.term(29, words).text(RINGS), 7, "17 0 1", "14 1 1", "8 2 1", "11 3 1", "16 3 1", "16 3 1");
        passing(doc.term(29, words).text(RINGS), 2026, "17 0 1", "14 0 1", "14 0 1", "14 0 1", "8 0 1", "8 0 1");
        doc.promise(29, "YEARS: TOTAL (what 0), SWAPS (1), PIECES (2).").text(RINGS).dueEach("years 3 5", 7, 3, 2)
                .due("count 4", 17).due("count 7", 0).due("count 5", 1).dueEach("years 3 5", 7, 3, 2);
    }

    /** What is due for what 0, 1 and 2 behind no year, one year .. */
    private static void passing(Checks test, int seed, String... due) {
        for (int n = 0; n < due.length; n++) {
            String[] each = due[n].split(" ");
            for (int what = 0; what < each.length; what++) {
                test.due("years " + seed + " " + n + " " + what, each[what]);
            }
        }
    }

    private void status() {
        doc.term(5, "STATUS: how many calls were refused: 0 TEXTS with a FAULT, 1 ACTS, 2 what is NOTED.").text(RINGS)
                .dueAll(-1, "price 6 1", "all 0 101", "breaks 6", "mend 0", "lay 0 0 1 0").dueAll(-1, "note 6 true",
                        "note -1 false").faulty(1, "^x").due("count 15", 1).due("count 16", 5).due("count 17", 2);
    }

    private void counts() {
        doc.promise(5, "8 NEXT BEST (NONE), 9 HUB, 10 LONGEST, 11 TWINS (bits), 12 ACTS that are kept, 13 NOTED")
                .text(RINGS).dueEach("count", 5, 6, 63, 27, 17, 1, 0, 0, 17, 1, 17, 11, 0, 0).due("price 4 3", 2)
                .due("note 4 true", 1).dueEach("count", 5, 6, 63, 27, 18, 1, 0, 0, 18, 1, 18, 11, 1, 1);
        doc.promise(5, "18 WEAK couples, 19 the first of these").text(RINGS).due("count 18", 6).due("count 19", 1)
                .due("breaks 0", 1).due("count 18", 3).due("count 19", 304);
        doc.promise(5, "20 CENTRE, 21 RADIUS, 22 DETOURS.").text(RINGS).due("count 20", 2).due("count 21", 9)
                .due("count 22", 3).due("breaks 0", 1).due("count 20", 2).due("count 21", 9).due("count 22", 0);
    }

    private void ofOne() {
        doc.promise(6, "Of a CABLE: 0 FIRST, 1 SECOND, 2 PRICE, 3 FIRM, 4 whether SOUND, 5 whether in THE NET")
                .text(RINGS).dueEach("cable 0", 0, 1, 4, 1, 1, 1).dueEach("cable 1", 1, 2, 4, 0, 1, 1)
                .dueEach("cable 2", 0, 2, 4, 2, 1, 0).dueEach("cable 3", 2, 3, 7, 1, 1, 1)
                .dueEach("cable 4", 3, 4, 2, 3, 1, 1).dueEach("cable 5", 2, 4, 9, 0, 1, 0).due("breaks 4", 1)
                .dueEach("cable 4", 3, 4, 2, 3, 0, 0);
        doc.promise(6, "10 BAR (NONE)").text(RINGS).due("cable 0 10", 4).due("cable 1 10", 4).due("cable 2 10", 3)
                .due("cable 3 10", 9).due("cable 4 10", 9).due("cable 5 10", 6).due("breaks 5", 1)
                .due("cable 5 10", -1).due("cable 3 10", 999);
        doc.promise(9, "Of a SITE: CABLES of THE NET that end there (what 0), whether it is a LEAF (1), the least SITE "
                + "of its PIECE (2), ALONE (3; NONE).").text(RINGS).dueEach("site 0", 1, 1, 0, 0)
                .dueEach("site 1", 2, 0, 0, 0).dueEach("site 2", 2, 0, 0, -1).dueEach("site 3", 2, 0, 0, 2)
                .dueEach("site 4", 1, 1, 0, 0).due("breaks 3", 1).due("breaks 5", 2).dueEach("site 4", 1, 1, 3, 0);
        doc.promise(11, "Of a FIRM: its SOUND CABLES (bits; what 0), PRICES of those in THE NET together (1), PAY")
                .text(RINGS).dueEach("firm 0", 34, 4, 4).dueEach("firm 1", 9, 11, 13).dueEach("firm 2", 4, 0, 0)
                .dueEach("firm 3", 16, 2, 9);
    }

    private void ofMore() {
        doc.promise(10, "Of two SITES NARROW (what 0; NONE), SPAN (1; NONE), CABLES on the way (2; NONE), SHORT (3; NONE)"
                + ", APART (4).").text(RINGS).dueEach("way 0 4", 7, 17, 4, 13, 2).dueEach("way 4 0", 7, 17, 4, 13, 2)
                .dueEach("way 0 2", 4, 8, 2, 4, 2).dueEach("way 3 4", 2, 2, 1, 2, 2).dueEach("way 2 2", 0, 0, 0, 0, 0)
                .due("breaks 3", 1).due("breaks 5", 2).dueEach("way 0 4", -1, -1, -1, -1, 0);
        doc.promise(13, "GROUPS for k: the GROUP of a SITE; GAP (site NONE).").text(RINGS).due("group 1 -1", 0)
                .due("group 2 -1", 7).due("group 3 -1", 4).due("group 4 -1", 4).due("group 5 -1", 2)
                .due("group 3 4", 3).due("group 3 1", 0);
        doc.promise(14, "WITHOUT a SITE: TOTAL (what 0), PIECES but for it (1).").text(RINGS)
                .dueEach("without 0", 13, 1).dueEach("without 1", 13, 1).dueEach("without 2", 6, 2)
                .dueEach("without 3", 17, 1).dueEach("without 4", 15, 1);
        doc.promise(15, "LIKE NETS.").text(RINGS).due("alike", 3);
        doc.promise(17, "JOINED; NONE: none.").text(RINGS).due("joined 17", 13).due("breaks 3", 1).due("joined 17", 13)
                .due("breaks 5", 2).due("joined 17", -1).due("joined 24", 2);
        doc.promise(18, "WHY (what 0), the CABLE (1)").text(RINGS).due("price 5 6", 9).due("swap 0 0", 2)
                .due("swap 0 1", 5).due("price 5 7", 6).due("swap 0 0", 1).due("swap 0 1", 5).due("swap 1 0", 2);
    }
}
