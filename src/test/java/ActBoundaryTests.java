import java.io.IOException;

/** Each sentence that names a boundary case of acts, notes, years and images: promises 19 to 31. */
public final class ActBoundaryTests {
    private static final String NO_ELEMENT = Checks.NO_ELEMENT;
    private static final String NO_ARGUMENT = Checks.NO_ARGUMENT;
    private static final String NO_STATE = Checks.NO_STATE;
    private static final String RINGS = Checks.RINGS;
    private static final String LEAST = "-2147483648";
    private static final String MOST = "2147483647";
    private static final String CABLE = "cable 0 1 5;";
    private static final String FULL = "sites 2;" + CABLE.repeat(24);
    private static final String TWO = "sites 2;cable 0 1 5;cable 0 1 6;";

    private final Sentences doc;

    private ActBoundaryTests(Sentences doc) {
        this.doc = doc;
    }

    public static void main(String[] args) throws IOException {
        run();
        Checks.end("every boundary case of promises 19 to 31 holds");
    }

    static void run() throws IOException {
        Sentences doc = new Sentences(19, 31);
        ActBoundaryTests tests = new ActBoundaryTests(doc);
        tests.promise19();
        tests.promise19Swaps();
        tests.promise20();
        tests.promise20Prices();
        tests.promise20Numbers();
        tests.promise21();
        tests.promise22();
        tests.promise23();
        tests.promise23Full();
        tests.promise24();
        tests.promise24Most();
        tests.promise24Round();
        tests.promise24Swaps();
        tests.promise24LastCall();
        tests.promise25();
        tests.promise26();
        tests.promise26Bars();
        tests.promise27();
        tests.promise28();
        tests.promise29();
        tests.promise29Prices();
        tests.promise29Breaks();
        tests.promise29Seeds();
        tests.promise30();
        tests.promise30Keeps();
        tests.promise30KeepsActs();
        tests.promise30KeepsNoted();
        tests.promise31();
        tests.promise31Gone();
        doc.end();
    }

    /** Of TWO, behind acts that were refused: all is as the text tells, but for STATUS. */
    private static Checks untouched(Checks test, int refused) {
        return test.due("count 16", refused).due("count 15", 0).due("count 17", 0).due("count 12", 0)
                .due("count 6", 0).due("count 7", 0).due("undo", -1).told("sites 2;cable 0 1 5 0;cable 0 1 6 0;");
    }

    private void promise19() {
        doc.promise(19, "A PRICE is told: what it was.").text(TWO).due("price 0 1", 5).due("price 0 999", 1)
                .due("price 0 5", 999).due("cable 0 2", 5).due("count 16", 0).due("count 12", 3);
        untouched(doc.promise(19, "NONE (STATUS 1): no such CABLE").text(TWO).dueAll(-1, "price 2 5", "price -1 5",
                "price 24 5", "price 32 7", "price " + LEAST + " 5", "price " + MOST + " 5"), 6);
        untouched(doc.promise(19, "not 1 to 999").text(TWO).dueAll(-1, "price 0 0", "price 0 1000", "price 0 -1",
                "price 0 " + LEAST, "price 0 " + MOST), 5);
        untouched(doc.promise(19, "it is so already.").text(TWO).dueAll(-1, "price 0 5", "price 1 6"), 2);
        doc.promise(19, "it is so already.").text("sites 2;cable 0 1 5;broken 0;").due("price 0 5", -1)
                .due("count 16", 1).due("price 0 6", 5).due("price 0 6", -1).due("count 16", 2).due("count 12", 1);
        doc.promise(19, "NONE (STATUS 1): no such CABLE").due("price 0 5", -1).due("count 16", 1);
    }

    private void promise19Swaps() {
        String words = "If any does, there is a SWAP";
        // Inside it stays up to its bar, outside above it.
        doc.term(19, words).text(TWO).due("price 0 6", 5).due("count 6", 0).due("price 0 1", 6).due("count 6", 0)
                .due("price 1 2", 6).due("count 6", 0).due("price 1 1", 2).due("count 6", 0).due("price 0 2", 1)
                .due("count 6", 1).dueEach("swap 0", 1, 0, 0, 1, 1).due("price 0 1", 2).due("count 6", 2)
                .dueEach("swap 0", 2, 0, 1, 0, 1);
        doc.term(19, words).text(TWO + "broken 1;").due("price 1 1", 6).due("price 1 999", 1).due("price 0 999", 5)
                .due("count 6", 0).due("count 7", 0).due("count 12", 3);
        doc.term(19, "WHY 1 a SOUND CABLE is DEARER, by its PRICE, 2 CHEAPER").text("sites 2;cable 0 1 5;cable 0 1 5;")
                .due("price 0 6", 5).due("swap 0 0", 1).due("price 0 5", 6).due("swap 0 0", 2).due("price 1 4", 5)
                .dueEach("swap 0", 2, 1, 0, 1, 4);
    }

    private void promise20() {
        doc.promise(20, "A FIRM's PRICES: TOTAL then.").text("sites 2;cable 0 1 100 3;").due("all 3 100", 200)
                .due("all 3 -50", 100).due("all 3 0", 100).due("count 12", 3).due("count 16", 0).due("breaks 0", 2)
                .due("all 3 100", 0).due("cable 0 2", 200);
        untouched(doc.promise(20, "NONE (STATUS 1): no such FIRM").text(TWO).dueAll(-1, "all 4 5", "all -1 5",
                "all " + LEAST + " 5", "all " + MOST + " 5"), 4);
        untouched(doc.promise(20, "not -50 to 100").text(TWO).dueAll(-1, "all 0 -51", "all 0 101", "all 0 " + LEAST,
                "all 0 " + MOST), 4);
        untouched(doc.promise(20, "it has no CABLES.").text(TWO).dueAll(-1, "all 1 5", "all 2 5", "all 3 0"), 3);
        doc.promise(20, "it has no CABLES.").due("all 0 5", -1).due("count 16", 1)
                .text("sites 2;cable 0 1 100 2;broken 0;").due("all 2 1", 0).due("cable 0 2", 101).due("count 16", 1);
    }

    private void promise20Prices() {
        doc.term(20, "put to 1 .. 999, is told").text("sites 5;cable 0 1 1;cable 1 2 499;cable 2 3 500;cable 3 4 999;")
                .due("all 0 100", 2 + 998 + 999 + 999).due("cable 0 2", 2).due("cable 1 2", 998).due("cable 2 2", 999)
                .due("cable 3 2", 999).due("all 0 -50", 1 + 499 + 499 + 499).due("cable 0 2", 1)
                .due("all 0 -50", 1 + 249 + 249 + 249).due("cable 0 2", 1);
        doc.term(20, "PRICE times (100 and so many hundredths) by 100 (cut)").text("sites 4;cable 0 1 99;cable 1 2 100;"
                + "cable 2 3 7;").due("all 0 1", 99 + 101 + 7).due("cable 0 2", 99).due("cable 1 2", 101)
                .due("cable 2 2", 7).due("all 0 -1", 98 + 99 + 6).due("cable 0 2", 98).due("cable 1 2", 99)
                .due("cable 2 2", 6);
        doc.term(20, "(of BROKEN ones, too; where it stays the same nothing is changed)")
                .text("sites 2;cable 0 1 10;cable 0 1 10;broken 1;").due("all 0 50", 15).due("cable 1 2", 15)
                .due("count 6", 0).text("sites 2;cable 0 1 1;cable 0 1 999;").due("all 0 50", 1).due("cable 0 2", 1)
                .due("cable 1 2", 999).due("count 6", 0).due("count 12", 1).due("undo", 0).due("cable 1 2", 999);
    }

    /** One cable after the other: the first one goes out ahead of the second one's rise. */
    private void promise20Numbers() {
        doc.term(20, "of each of its CABLES, by numbers").text("sites 2;cable 0 1 100;cable 0 1 150;").due("all 0 100", 200)
                .due("count 6", 2).dueEach("swap 1", 1, 0, 0, 1, 150).dueEach("swap 0", 1, 1, 1, 0, 200)
                .due("count 12", 1).due("all 0 -50", 100).due("count 6", 2);
        doc.term(20, "(At most one CABLE goes out of THE NET by one, and at most one comes in.)")
                .text("sites 2;" + "cable 0 1 100;".repeat(24)).due("all 0 1", 101).due("count 6", 24)
                .dueEach("swap 23", 1, 0, 0, 1, 100).dueEach("swap 1", 1, 22, 22, 23, 100)
                .dueEach("swap 0", 1, 23, 23, 0, 101).due("undo", 0).due("count 6", 0);
    }

    private void promise21() {
        doc.promise(21, "A CABLE BREAKS: PIECES then.").text("sites 10;cable 0 9 5;").due("breaks 0", 10)
                .text(TWO).due("breaks 0", 1).due("breaks 1", 2).dueEach("swap 0", 3, 1, 1, -1, 0).due("count 2", 0)
                .text(FULL).due("breaks 23", 1).due("count 6", 0).due("count 2", 8388607);
        untouched(doc.promise(21, "NONE (STATUS 1): no such CABLE").text(TWO).dueAll(-1, "breaks 2", "breaks -1",
                "breaks 24", "breaks 32", "breaks " + LEAST, "breaks " + MOST), 6);
        doc.promise(21, "it is BROKEN.").text(TWO + "broken 1;").due("breaks 1", -1).due("count 16", 1)
                .due("count 12", 0).due("breaks 0", 2).due("breaks 0", -1).due("count 16", 2).due("count 12", 1)
                .due("count 6", 1);
    }

    private void promise22() {
        doc.promise(22, "A CABLE is MENDED: PIECES then.").text("sites 10;cable 0 9 5;broken 0;").due("mend 0", 9)
                .dueEach("swap 0", 4, 0, -1, 0, 5).text(TWO + "broken 1;broken 0;").due("mend 1", 1).due("mend 0", 1)
                .dueEach("swap 0", 4, 0, 1, 0, 5).dueEach("swap 1", 4, 1, -1, 1, 6).due("count 2", 3);
        doc.promise(22, "NONE (STATUS 1): no such CABLE").text(TWO + "broken 0;").dueAll(-1, "mend 2", "mend -1",
                "mend 24", "mend 32", "mend " + LEAST, "mend " + MOST).due("count 16", 6).due("count 12", 0)
                .due("count 2", 2);
        untouched(doc.promise(22, "it is SOUND.").text(TWO).dueAll(-1, "mend 0", "mend 1"), 2);
        doc.promise(22, "it is SOUND.").text(TWO).due("breaks 0", 1).due("mend 0", 1).due("mend 0", -1)
                .due("count 16", 1).due("count 12", 2);
    }

    private void promise23() {
        doc.promise(23, "A CABLE is LAID: which.").due("lay 0 3 1 0", 0).due("lay 3 0 999 3", 1)
                .dueEach("cable 0", 0, 3, 1, 0, 1, 1).dueEach("cable 1", 3, 0, 999, 3, 1, 0).due("count 6", 1)
                .due("swap 0 0", 5).text("sites 10;").due("lay 9 8 5 1", 0);
        untouched(doc.promise(23, "NONE (STATUS 1): no such SITES").text(TWO).dueAll(-1, "lay 2 0 5 0", "lay 0 2 5 0",
                "lay -1 0 5 0", "lay 0 -1 5 0", "lay 9 8 5 0", "lay " + LEAST + " 0 5 0", "lay 0 " + MOST + " 5 0"), 7);
        untouched(doc.promise(23, "they are one").text(TWO).dueAll(-1, "lay 0 0 5 0", "lay 1 1 5 0"), 2);
        untouched(doc.promise(23, "not 1 to 999").text(TWO).dueAll(-1, "lay 0 1 0 0", "lay 0 1 1000 0",
                "lay 0 1 -1 0", "lay 0 1 " + LEAST + " 0", "lay 0 1 " + MOST + " 0"), 5);
        untouched(doc.promise(23, "no such FIRM").text(TWO).dueAll(-1, "lay 0 1 5 4", "lay 0 1 5 -1",
                "lay 0 1 5 " + LEAST, "lay 0 1 5 " + MOST), 4);
        doc.term(23, "is LAID as the last one, SOUND.").text(TWO + "broken 1;").due("lay 1 0 5 2", 2)
                .dueEach("cable 2", 1, 0, 5, 2, 1, 0).due("lay 0 1 4 0", 3).dueEach("swap 0", 5, 3, 0, 3, 4)
                .due("count 6", 1).due("cable 1 4", 0);
    }

    private void promise23Full() {
        doc.promise(23, "there are 24.").text("sites 2;" + CABLE.repeat(23) + "broken 22;").due("lay 0 1 4 0", 23)
                .due("lay 0 1 3 0", -1).due("count 1", 24).due("count 16", 1).due("count 12", 1).due("breaks 23", 1)
                .due("lay 0 1 3 0", -1).due("count 16", 2).due("undo", 1).due("undo", 0).due("count 1", 23)
                .due("lay 1 0 3 1", 23).dueEach("cable 23", 1, 0, 3, 1, 1, 1).due("lay 0 1 2 0", -1);
        doc.promise(23, "there are 24.").text(FULL).due("lay 0 1 1 0", -1).due("count 16", 1).due("count 12", 0)
                .due("count 3", 1);
    }

    private void promise24() {
        doc.promise(24, "The last ACT is UNDONE: how many are left.").text(TWO + "broken 1;").due("price 0 7", 5)
                .due("all 0 100", 14).due("mend 1", 1).due("breaks 0", 1).due("lay 1 0 1 3", 2)
                .due("undo", 4).due("count 1", 2).due("undo", 3).due("count 2", 3).due("undo", 2).due("count 2", 1)
                .due("undo", 1).due("cable 0 2", 7).due("cable 1 2", 6).due("undo", 0).due("cable 0 2", 5)
                .told("sites 2;cable 0 1 5 0;cable 0 1 6 0;broken 1;");
        doc.promise(24, "NONE: there is none.").due("undo", -1).text(TWO).due("undo", -1).due("price 0 0", -1)
                .due("undo", -1).due("price 0 1", 5).due("undo", 0).due("undo", -1).due("undo", -1)
                .due("cable 0 2", 5).due("count 16", 1);
        // What is noted and how much was refused are no part of an act.
        doc.promise(24, "The last ACT is UNDONE: how many are left.").text(TWO).due("price 0 7", 5)
                .due("note 1 true", 1).due("price 9 9", -1).due("note 9 true", -1).due("feed 0 0 0 0 0", 20)
                .due("undo", 0).due("count 13", 1).due("count 16", 1).due("count 17", 1).due("count 14", 20);
    }

    private void promise24Most() {
        String words = "ACTS (at most 40 are kept, the latest ones)";
        Checks test = doc.term(24, words).text(TWO);
        for (int act = 1; act <= 40; act++) {
            test.due("price 0 " + (100 + act), act == 1 ? 5 : 99 + act).due("count 12", act);
        }
        for (int left = 39; left >= 0; left--) {
            test.due("undo", left);
        }
        test.due("undo", -1).due("cable 0 2", 5).due("count 12", 0);
        Checks more = doc.term(24, words).text(TWO);
        for (int act = 1; act <= 41; act++) {
            more.due("price 0 " + (100 + act), act == 1 ? 5 : 99 + act).due("count 12", Math.min(act, 40));
        }
        for (int left = 39; left >= 0; left--) {
            more.due("undo", left).due("cable 0 2", 101 + left);
        }
        more.due("undo", -1).due("cable 0 2", 101);
    }

    /** The room of the acts is used again and again, from whatever place. */
    private void promise24Round() {
        Checks test = doc.term(24, "They are UNDONE, the last one first").text(TWO);
        int price = 5;
        for (int round = 0; round < 3; round++) {
            for (int act = 0; act < 57; act++) {
                test.due("price 0 " + (price + 1), price);
                price++;
            }
            for (int left = 39; left >= 3; left--) {
                test.due("undo", left);
                price--;
            }
            test.due("cable 0 2", price).due("count 12", 3);
        }
        test.due("undo", 2).due("undo", 1).due("undo", 0).due("cable 0 2", price - 3).due("undo", -1);
    }

    private void promise24Swaps() {
        String words = "(SWAPS are as ahead of it, too)";
        doc.term(24, words).text(TWO).due("breaks 0", 1).due("mend 0", 1).due("price 1 9", 6).due("count 6", 2)
                .due("undo", 2).due("count 6", 2).due("undo", 1).due("count 6", 1).due("count 7", 1)
                .dueEach("swap 0", 3, 0, 0, 1, 6).due("price 1 4", 6).due("count 6", 1).due("undo", 1).due("undo", 0)
                .due("count 6", 0).due("count 7", 0).due("swap 0 0", NO_ELEMENT);
        // 24 swaps an act: behind the undoing those are there again that 60 later ones had put away.
        Checks test = doc.term(24, words).text("sites 2;" + "cable 0 1 100;".repeat(24));
        for (int act = 1; act <= 41; act++) {
            test.due("all 0 1", 100 + act);
        }
        test.due("count 7", 984).due("swap 59 4", 138);
        for (int left = 39; left >= 0; left--) {
            test.due("undo", left).due("count 7", 24 * (left + 1)).due("count 6", Math.min(60, 24 * (left + 1)));
        }
        test.dueEach("swap 0", 1, 23, 23, 0, 101).dueEach("swap 23", 1, 0, 0, 1, 100).due("swap 24 0", NO_ELEMENT);
    }

    private void promise24LastCall() {
        Checks test = doc.use(24, "An object is used for at most 512 calls after it has been made; what later calls answer "
                + "is free.").text(TWO);
        for (int call = 5; call < 512; call++) {
            test.due("price 0 " + (call % 2 + 1), call == 5 ? 5 : (call - 1) % 2 + 1);
        }
        test.due("undo", 39);
    }

    private void promise25() {
        Checks test = doc.promise(25, "NONE (STATUS 2): there are 8").text(TWO);
        for (int noted = 1; noted <= 8; noted++) {
            test.due("note " + noted % 2 + " " + (noted > 4), noted);
        }
        test.dueAll(-1, "note 0 true", "note 1 false", "note 2 true").due("count 13", 8).due("count 17", 3)
                .due("count 16", 0).due("forget", "").due("note 0 true", 1).due("count 17", 3);
        doc.promise(25, "no such CABLE.").due("note 0 true", -1).due("count 17", 1).due("count 13", 0).text(TWO)
                .dueAll(-1, "note 2 true", "note -1 false", "note 24 true", "note 32 true", "note " + LEAST + " true",
                        "note " + MOST + " false").due("count 17", 7).due("count 13", 0).due("count 16", 0)
                .due("fits 0 0", 999);
        doc.promise(25, "NOTED: how much is.").text(TWO + "broken 0;").due("note 0 false", 1).due("note 0 false", 2)
                .due("note 0 true", 3).due("count 13", 3).text(FULL).due("note 23 false", 1).due("fits 23 0", 995);
        // The ninth is refused, so it is not noted: cable 1 may still be in THE NET.
        Checks ninth = doc.term(25, "NOTED (at most 8)").text(TWO);
        for (int noted = 1; noted <= 8; noted++) {
            ninth.due("note 1 true", noted);
        }
        ninth.due("note 1 false", -1).due("fits 1 0", 4).due("fits 1 1", 1);
    }

    private void promise26() {
        doc.promise(26, "FITS: how many (what 0), the least (1; NONE).").text(TWO).dueEach("fits 0", 999, 1)
                .dueEach("fits 1", 999, 1).due("note 0 true", 1).dueEach("fits 0", 6, 1).dueEach("fits 1", 995, 5)
                .due("forget", "").due("note 0 false", 1).dueEach("fits 0", 993, 7).dueEach("fits 1", 4, 1)
                .due("note 0 true", 2).dueEach("fits 0", 0, -1).dueEach("fits 1", 0, -1);
        doc.promise(26, "NoSuchElementException: also another what.").dueAll(NO_ELEMENT, "fits 0 0", "fits -1 0")
                .text(TWO + "broken 1;").dueAll(NO_ELEMENT, "fits 0 2", "fits 0 -1", "fits 0 " + LEAST,
                        "fits 0 " + MOST, "fits 2 0", "fits -1 0", "fits 24 0", "fits 32 0", "fits " + LEAST + " 0",
                        "fits " + MOST + " 0", "fits 2 2").due("fits 0 1", 1);
        doc.promise(26, "IllegalStateException (behind that): the CABLE is BROKEN.").text(TWO + "broken 1;")
                .dueAll(NO_STATE, "fits 1 0", "fits 1 1").dueAll(NO_ELEMENT, "fits 1 2", "fits 1 -1", "fits 2 0")
                .due("mend 1", 1).due("fits 1 0", 999).due("breaks 1", 1).due("fits 1 0", NO_STATE);
    }

    private void promise26Bars() {
        String words = "FITS of a CABLE: its PRICES (1 to 999) by which, all else as it is, all NOTED would be so";
        // Alone it is inside at every price.
        doc.term(26, words).text(CABLE).due("note 0 true", 1).dueEach("fits 0", 999, 1).due("note 0 false", 2)
                .dueEach("fits 0", 0, -1).due("forget", "").due("note 0 false", 1).dueEach("fits 0", 0, -1);
        // Beside a lesser number at 1 it is outside at every price; beside a greater one it is inside at 1 alone.
        doc.term(26, words).text("sites 2;cable 0 1 1;cable 0 1 1;").due("note 1 true", 1).dueEach("fits 1", 0, -1)
                .dueEach("fits 0", 998, 2).due("forget", "").due("note 1 false", 1).dueEach("fits 1", 999, 1)
                .dueEach("fits 0", 1, 1);
        doc.term(26, words).text("sites 2;cable 0 1 999;cable 0 1 999;").due("note 1 true", 1).dueEach("fits 1", 998, 1)
                .dueEach("fits 0", 0, -1).due("forget", "").due("note 1 false", 1).dueEach("fits 1", 1, 999)
                .dueEach("fits 0", 999, 1);
        // A broken cable is in no net.
        doc.term(26, words).text(TWO + "broken 1;").due("note 1 false", 1).due("fits 0 0", 999).due("note 1 true", 2)
                .dueEach("fits 0", 0, -1);
    }

    private void promise27() {
        String words = "LOOK NEXT for a CABLE: that other one which is in THE NET by some of these and isn't by others "
                + "(of several the least); none.";
        doc.term(27, words).text(CABLE).due("look 0", -1).text(TWO).due("look 0", 1).due("look 1", 0)
                .due("note 0 true", 1).due("look 0", -1).due("look 1", -1).due("note 0 false", 2).due("look 0", -1);
        doc.term(27, words).text("sites 2;cable 0 1 1;cable 0 1 1;").due("look 0", 1).due("look 1", -1)
                .text("sites 2;cable 0 1 999;cable 0 1 999;").due("look 0", -1).due("look 1", 0)
                .text(TWO + "broken 1;").due("look 0", -1).text(FULL).due("look 0", 1).due("look 23", 0);
        doc.promise(27, "LOOK NEXT; NONE: none. NoSuchElementException.").dueAll(NO_ELEMENT, "look 0", "look -1")
                .text(TWO).dueAll(NO_ELEMENT, "look 2", "look -1", "look 24", "look 32", "look " + LEAST, "look " + MOST)
                .due("look 1", 0);
        doc.promise(27, "IllegalStateException (behind that): the CABLE is BROKEN.").text(TWO + "broken 1;")
                .due("look 1", NO_STATE).due("look 2", NO_ELEMENT).due("mend 1", 1).due("look 1", 0)
                .due("breaks 1", 1).due("look 1", NO_STATE);
    }

    private void promise28() {
        doc.promise(28, "All that is NOTED is forgotten.").due("forget", "").due("count 13", 0).text(TWO)
                .due("note 0 true", 1).due("note 1 true", 2).due("fits 0 0", 0).due("forget", "").due("count 13", 0)
                .due("fits 0 0", 999).due("look 0", 1).due("forget", "").due("count 13", 0).due("count 17", 0)
                .due("note 0 false", 1).due("fits 0 0", 993);
        // Behind eight and a refused one there is room for eight again; STATUS stays.
        Checks test = doc.promise(28, "All that is NOTED is forgotten.").text(TWO);
        for (int round = 1; round <= 2; round++) {
            for (int noted = 1; noted <= 8; noted++) {
                test.due("note 0 true", noted);
            }
            test.due("note 0 true", -1).due("forget", "").due("count 17", round);
        }
    }

    private static Checks years(Checks test, String seed, int n, int total, int swaps, int pieces) {
        return test.dueEach("years " + seed + " " + n, total, swaps, pieces);
    }

    private void promise29() {
        Checks test = doc.term(29, "n times (0 to 60)").text("sites 2;cable 0 1 500;");
        years(test, "0", 0, 500, 0, 1);
        years(test, "0", 1, 505, 0, 1);
        years(test, "0", 60, 551, 18, 1);
        years(doc.term(29, "n times (0 to 60)").text(RINGS), "1", 60, 65, 18, 3).due("count 4", 17).due("count 6", 0)
                .due("count 12", 0).due("count 2", 63).due("count 16", 0);
        years(doc.term(29, "(without CABLES nothing is drawn behind)"), "1", 60, 0, 0, 4).due("years 7 1 2", 4)
                .text("sites 10;").due("years " + LEAST + " 60 2", 10);
        doc.promise(29, "NoSuchElementException: another what.").dueAll(NO_ELEMENT, "years 1 1 3", "years 1 1 -1",
                "years 1 0 " + LEAST, "years 1 60 " + MOST).due("years 1 1 2", 4);
        doc.promise(29, "IllegalArgumentException (behind that): n.").text(RINGS).dueAll(NO_ARGUMENT, "years 1 61 0",
                "years 1 -1 1", "years 1 61 2", "years 1 " + LEAST + " 0", "years 1 " + MOST + " 0")
                .dueAll(NO_ELEMENT, "years 1 61 3", "years 1 -1 -1").due("years 1 0 0", 17);
    }

    /** The seed 21 draws 20 down, then 11 up; 944 draws 20 up, then 9 up; 88 draws 0. */
    private void promise29Prices() {
        String words = "a DRAW of 41, less 20, more, put to 1 .. 999";
        int[][] down = {{1, 1}, {20, 1}, {21, 1}, {22, 2}, {999, 979}};
        for (int[] each : down) {
            years(doc.term(29, words).text("sites 2;cable 0 1 " + each[0] + ";"), "21", 1, each[1], 0, 1);
        }
        int[][] up = {{1, 21}, {978, 998}, {979, 999}, {980, 999}, {999, 999}};
        for (int[] each : up) {
            years(doc.term(29, words).text("sites 2;cable 0 1 " + each[0] + ";"), "944", 1, each[1], 0, 1);
        }
        // What is put to 1 goes on from there.
        doc.term(29, words).text("sites 2;cable 0 1 5;").due("years 21 2 0", 12).text("sites 2;cable 0 1 999;")
                .due("years 944 2 0", 999).text("sites 2;cable 0 1 7;").due("years 88 1 0", 7).due("years 88 1 1", 0);
    }

    /** Of one cable: the seeds 0, 4, 46, 3, 2, 16, 1 and 5 draw 0 to 7 first. */
    private void promise29Breaks() {
        Checks kinds = doc.term(29, "a DRAW of 8: 0 to 5 a PRICE").text("sites 2;cable 0 1 500;");
        int[][] prices = {{0, 505}, {4, 516}, {46, 508}, {3, 513}, {2, 510}, {16, 507}};
        for (int[] each : prices) {
            years(kinds, "" + each[0], 1, each[1], 0, 1);
        }
        String words = "6, 7 a DRAW of CABLES BREAKS, if it is SOUND, else is MENDED";
        Checks test = doc.term(29, words).text("sites 2;cable 0 1 500;");
        years(test, "1", 1, 0, 1, 2);
        years(test, "5", 1, 0, 1, 2);
        years(test, "48", 1, 0, 1, 2);
        years(test, "48", 2, 500, 2, 1);
        years(test, "48", 3, 507, 2, 1);
        years(test, "402", 3, 0, 3, 2);
        // It goes 8 up while it is broken, which is no swap.
        years(test, "24", 2, 0, 1, 2);
        years(test, "24", 3, 508, 2, 1);
        years(doc.term(29, words).text("sites 2;cable 0 1 5;broken 0;"), "1", 1, 5, 1, 1);
        // Of 24 cables 152 draws the last one and 91 the first one.
        Checks full = doc.term(29, words).text(FULL);
        years(full, "152", 1, 5, 0, 1);
        years(full, "91", 1, 5, 1, 1);
        years(full.due("price 23 4", 5), "152", 1, 5, 1, 1);
        years(full, "91", 1, 4, 0, 1);
    }

    /** Seeds that are 2^31 apart draw the same: only the sign of what they become is another one. */
    private void promise29Seeds() {
        String words = "A seed becomes itself times 1103515245 and 12345 (an int that wraps); a DRAW of n is its bits 16 to "
                + "30 MOD n then.";
        Checks test = doc.term(29, words).text("sites 2;cable 0 1 500;");
        for (String seed : new String[] {"-1", MOST}) {
            years(test, seed, 1, 502, 0, 1);
            years(test, seed, 2, 0, 1, 2);
            years(test, seed, 60, 668, 12, 1);
        }
        for (String seed : new String[] {"0", LEAST}) {
            years(test, seed, 2, 520, 0, 1);
            years(test, seed, 4, 540, 0, 1);
            years(test, seed, 60, 551, 18, 1);
        }
    }

    private void promise30() {
        doc.promise(30, "AN IMAGE is kept, in place of another one.").text(TWO).due("image", "").due("price 0 7", 5)
                .due("image", "").due("price 0 9", 7).due("restore", 1).due("cable 0 2", 7).due("count 12", 1)
                .due("undo", 0).due("cable 0 2", 5).due("image", "").due("image", "").due("price 0 8", 5)
                .due("restore", 1).due("cable 0 2", 5).due("count 12", 0);
        doc.promise(30, "AN IMAGE is kept, in place of another one.").due("image", "").due("lay 0 1 5 0", 0)
                .due("restore", 1).told("sites 4;").due("count 5", 4).due("count 6", 0);
    }

    private void promise30Keeps() {
        doc.term(30, "AN IMAGE keeps all that ACTS change").text(TWO + "broken 1;").due("price 0 7", 5).due("image", "")
                .due("all 0 100", 14).due("mend 1", 1).due("breaks 0", 1).due("lay 1 0 1 3", 2).due("restore", 1)
                .told("sites 2;cable 0 1 7 0;cable 0 1 6 0;broken 1;").due("count 3", 1).due("count 4", 7)
                .due("count 6", 0).due("count 7", 0).due("way 0 1 1", 7);
    }

    private void promise30KeepsActs() {
        Checks acts = doc.term(30, "ACTS that are kept, what is NOTED, STATUS.").text(TWO);
        for (int act = 1; act <= 45; act++) {
            acts.due("price 0 " + (100 + act), act == 1 ? 5 : 99 + act);
        }
        acts.due("image", "");
        for (int left = 39; left >= 20; left--) {
            acts.due("undo", left);
        }
        for (int act = 1; act <= 30; act++) {
            acts.due("price 0 " + (500 + act), act == 1 ? 125 : 499 + act);
        }
        acts.due("restore", 1).due("count 12", 40).due("cable 0 2", 145);
        for (int left = 39; left >= 0; left--) {
            acts.due("undo", left).due("cable 0 2", 105 + left);
        }
        // The rooms of both acts are used anew behind the image: all three of what they keep come back.
        doc.term(30, "ACTS that are kept, what is NOTED, STATUS.").text(TWO).due("lay 0 1 4 0", 2).due("breaks 2", 1)
                .due("image", "").due("undo", 1).due("undo", 0).due("price 0 7", 5).due("price 0 8", 7)
                .due("restore", 1).due("count 12", 2).due("count 1", 3).due("count 2", 3).due("count 6", 2)
                .due("undo", 1).due("count 1", 3).due("count 2", 7).due("cable 0 2", 5).due("count 6", 1)
                .due("undo", 0).due("count 1", 2).due("count 2", 3).due("count 6", 0);
    }

    private void promise30KeepsNoted() {
        Checks rest = doc.term(30, "ACTS that are kept, what is NOTED, STATUS.").text(TWO);
        for (int noted = 1; noted <= 8; noted++) {
            rest.due("note 0 true", noted);
        }
        rest.due("note 0 true", -1).due("price 0 0", -1).faulty(1, "^x").due("image", "").due("forget", "")
                .due("note 1 true", 1).due("note 9 true", -1).due("price 0 0", -1).faulty(1, "^x").due("restore", 1)
                .due("count 13", 8).due("fits 0 0", 6).due("count 15", 1).due("count 16", 1).due("count 17", 1)
                .due("note 0 true", -1).due("count 17", 2);
        doc.term(30, "ACTS that are kept, what is NOTED, STATUS.").text(TWO).due("note 0 false", 1).due("image", "")
                .due("forget", "").due("note 0 true", 1).due("restore", 1).due("count 13", 1).due("fits 0 0", 993)
                .due("forget", "").due("image", "").due("note 0 false", 1).due("restore", 1).due("count 13", 0)
                .due("fits 0 0", 999);
    }

    private void promise31() {
        doc.promise(31, "It is as the IMAGE again: true.").text(TWO).due("breaks 0", 1).due("image", "")
                .due("restore", 1).due("count 6", 1).due("mend 0", 1).due("restore", 1).due("count 6", 1)
                .dueEach("swap 0", 3, 0, 0, 1, 6).due("restore", 1).due("undo", 0).due("count 2", 3).due("count 6", 0)
                .due("restore", 1).due("count 2", 2).due("count 12", 1);
        // Tape and fault() are no part of it.
        doc.promise(31, "It is as the IMAGE again: true.").text(TWO).due("image", "").faulty(1, "sites^;")
                .due("feed 0 0 0 0 0", 20).due("restore", 1).due("count 14", 20).due("fault", 5).due("count 15", 0);
        Checks swaps = doc.promise(31, "It is as the IMAGE again: true.").text("sites 2;" + "cable 0 1 100;".repeat(24))
                .due("all 0 1", 101).due("all 0 1", 102).due("all 0 1", 103).due("image", "").due("undo", 2)
                .due("undo", 1).due("undo", 0);
        for (int act = 0; act < 40; act++) {
            swaps.due("all 0 1", 101 + act);
        }
        swaps.due("restore", 1).due("count 6", 60).due("count 7", 72).dueEach("swap 0", 1, 23, 23, 0, 103)
                .dueEach("swap 59", 1, 12, 12, 13, 100).due("undo", 2).due("count 6", 48);
    }

    private void promise31Gone() {
        doc.promise(31, "False: there is none.").due("restore", 0).text(TWO).due("restore", 0).due("price 0 7", 5)
                .due("restore", 0).due("cable 0 2", 7).due("count 12", 1).due("image", "").due("restore", 1)
                .faulty(1, "^x").due("restore", 1).due("net -1", NO_ARGUMENT).due("restore", 1)
                .due("net 0", 0).due("restore", 0).due("count 1", 0).text(TWO).due("restore", 0);
    }
}
