/** Each promise by itself: ordinary calls, the edges that the document names, wrong calls; reckoned by hand. */
public final class PromiseTests {
    private static final String NO_ELEMENT = Checks.NO_ELEMENT;
    private static final String NO_ARGUMENT = Checks.NO_ARGUMENT;
    private static final String NO_STATE = Checks.NO_STATE;

    private static final String RINGS = Checks.RINGS;

    private PromiseTests() {
    }

    private static Checks promise(String name) {
        return new Checks(name);
    }

    private static Checks rings(String name) {
        return promise(name).text(RINGS);
    }

    public static void main(String[] args) {
        newObject();
        feed();
        net();
        faults();
        faultsAhead();
        count();
        cable();
        ringAndTaken();
        site();
        way();
        firm();
        shareGroupWithout();
        alike();
        told();
        joined();
        swap();
        manySwaps();
        price();
        all();
        breaksAndMend();
        lay();
        undo();
        note();
        fits();
        look();
        years();
        image();
        status();
        Checks.end("all promises hold");
    }

    private static void newObject() {
        promise("1 new").dueEach("count", 4, 0, 0, 0, 0, 4, 0, 0, -1, 0, 0, 0, 0, 0, 0, 0, 0, 0, 0, -1, 0, 0, 0)
                .due("count 23", NO_ELEMENT).due("count -1", NO_ELEMENT)
                .due("fault", -1).due("restore", 0).due("undo", -1).due("alike", 1)
                .due("cable 0 0", NO_ELEMENT).due("site 3 0", 0).due("site 4 0", NO_ELEMENT)
                .due("taken 0", NO_ELEMENT).due("swap 0 0", NO_ELEMENT).told("sites 4;");
    }

    private static void feed() {
        Checks test = promise("2 feed");
        for (int i = 1; i <= 35; i++) {
            test.due("feed 538976288 538976288 538976288 538976288 538976288", 20 * i);
        }
        test.due("feed 0 0 0 0 0", -1).due("count 14", 700).due("net 700", 0).due("count 14", 0)
                .due("feed 0 0 0 0 0", 20);
        // The first two numbers are "sites 3;", the highest byte of each first.
        promise("2 feed").due("feed 1936290917 1931490107 0 0 -1", 20).due("net 20", 1).due("fault", 8)
                .due("feed 1936290917 1931490107 0 0 -1", 20).due("net 8", 0).due("count 0", 3);
        promise("2 feed").due("feed -1 0 0 0 0", 20).due("net 1", 1).due("fault", 0);
    }

    private static void net() {
        promise("3 net").text("").text(" \n ").text("sites 2;").due("count 0", 2).text("").due("count 0", 4);
        promise("3 net").text("sites 10;cable 9 8 999 3;").told("sites 10;cable 9 8 999 3;");
        promise("3 net").text("sites010;cable0 1 007 0;\nbroken\n00;").told("sites 10;cable 0 1 7 0;broken 0;");
        promise("3 net").text("cable 0 1 5;cable 0 1 5;").due("count 1", 2).due("count 3", 1);
        promise("3 net").due("feed 0 0 0 0 0", 20).due("net 21", NO_ARGUMENT).due("net -1", NO_ARGUMENT)
                .due("count 14", 20).due("net 0", 0).due("count 14", 0).due("count 15", 0).due("net 1", NO_ARGUMENT);
        rings("3 net").due("price 0 5", 4).due("note 0 true", 1).due("image", "").text("x;", 1, 0)
                .due("count 1", 6).due("count 12", 1).due("count 13", 1).due("count 6", 1).due("count 15", 1)
                .due("restore", 1).due("count 15", 0)
                .text(RINGS).due("cable 0 2", 4).due("count 12", 0).due("count 13", 0).due("count 6", 0)
                .due("count 7", 0).due("restore", 0).due("undo", -1);
        promise("4 fault").text("x", 1, 0).due("net 9", NO_ARGUMENT).due("fault", 0).text("").due("fault", -1);
    }

    private static void faults() {
        Checks test = promise("4 faults");
        test.text("table 0 1 5;", 1, 0).text("cablz 0 1 5;", 1, 0).text("cable 0 1 5 zz;", 1, 12)
                .text("cables 0 1 5;", 1, 0).text("Cable 0 1 5;", 1, 0).text(";", 1, 0).text("7;", 1, 0)
                .text("1000;", 1, 0).text("sites;", 1, 5).text("sites 4", 1, 7).text("sites 4  ", 1, 9)
                .text("sites 4 4;", 1, 8).text("cable 0 1 5 1 1;", 1, 14).text("cable 0 x 5;", 1, 8)
                .text("cable 0 1 5:", 1, 11).text("cable\t0 1 5;", 1, 5).text("broken;", 1, 6)
                .text("sites 4;;", 1, 8).text("cable 0 1 5 2x;", 1, 13).text("cable", 1, 5);
        test.text("sites 1;", 2, 6).text("sites 11;", 2, 6).text("sites 0004;", 2, 6).text("cable 10 1 5;", 2, 6)
                .text("cable 0 10 5;", 2, 8).text("cable 0 1 0;", 2, 10).text("cable 0 1 0999;", 2, 10)
                .text("cable 0 1 5 4;", 2, 12).text("cable 0 1 5 0000;", 2, 12).text("broken 24;", 2, 7)
                .text("cable 0 1 99999999999999999999;", 2, 10);
        test.text("cable 4 1 5;", 3, 6).text("cable 1 4 5;", 3, 8).text("sites 9;cable 9 1 5;", 3, 14)
                .text("broken 0;", 3, 7).text("cable 0 1 5;broken 1;", 3, 19).text("broken 23;", 3, 7);
        test.text("sites 4;sites 4;", 4, 8).text("cable 0 1 5;sites 4;", 4, 12)
                .text("cable 0 1 5;broken 0;broken 0;", 4, 28).text("cable 0 1 5;sites", 4, 12);
        test.text("cable 0 0 5;", 5, 8).text("cable 3 03 5;", 5, 8);
        test.due("count 15", 43);
        String cable = "cable 0 1 5;";
        promise("4 faults").text(cable.repeat(24)).due("count 1", 24).text(cable.repeat(25), 2, 288)
                .text(cable.repeat(24) + "cable", 2, 288).text(cable.repeat(24) + "broken 23;");
    }

    private static void faultsAhead() {
        promise("4 the first fault").text("cable 4 0 5;x", 3, 6).text("cable 0 0 1000;", 5, 8)
                .text("cable 12 12 0;", 2, 6).text("cable 0 1 5;sites 99;", 4, 12).text("cable 4 4 5;", 3, 6);
    }

    private static void count() {
        rings("5 count").dueEach("count", 5, 6, 63, 27, 17, 1, 0, 0, 17, 1, 17, 11, 0, 0, 0, 0, 0, 0, 6, 1, 2, 9, 3)
                .due("count 23", NO_ELEMENT);
        // Without cable 0 the left ring is a way: its cables are bridges, and no weak couple is left there.
        rings("5 count").due("breaks 0", 1).due("count 2", 62).due("count 3", 30).due("count 8", 19)
                .due("count 18", 3).due("count 19", 304).due("count 22", 0).due("count 9", 2).due("count 10", 13);
        promise("5 count").text("cable 0 1 5;").due("count 5", 3).due("count 8", -1).due("count 20", 2)
                .due("count 21", 0).due("count 9", 0).due("count 10", 5).due("count 19", -1);
        promise("5 next best").text("sites 2;cable 0 1 5;cable 0 1 8;cable 0 1 7;").due("count 8", 7)
                .due("count 11", 0).due("breaks 2", 1).due("count 8", 8).due("breaks 1", 1).due("count 8", -1)
                .due("count 11", 1);
        promise("5 twins, like prices").text("sites 2;cable 0 1 5;cable 0 1 5;").due("count 11", 1);
    }

    private static void cable() {
        rings("6 cable").dueEach("cable 2", 0, 2, 4, 2, 1, 0, 2, 1, 0, -1, 3, 0)
                .dueEach("cable 5", 2, 4, 9, 0, 1, 0, 2, 3, 0, -1, 6, 0)
                .dueEach("cable 0", 0, 1, 4, 1, 1, 1, 0, -1, 1, 2, 4, 0)
                .dueEach("cable 1", 1, 2, 4, 0, 1, 1, 0, -1, 3, 2, 4, 0)
                .dueEach("cable 3", 2, 3, 7, 1, 1, 1, 0, -1, 7, 5, 9, 2)
                .dueEach("cable 4", 3, 4, 2, 3, 1, 1, 0, -1, 15, 5, 9, 7)
                .due("cable 6 0", NO_ELEMENT).due("cable -1 0", NO_ELEMENT).due("cable 0 12", NO_ELEMENT)
                .due("cable 0 -1", NO_ELEMENT)
                .due("breaks 4", 1).dueEach("cable 4", 3, 4, 2, 3, 0, 0, 0, -1, 0, -1, -1, -1)
                .dueEach("cable 5", 2, 4, 9, 0, 1, 1, 0, -1, 15, -1, 999, -1);
        promise("6 bar").text("sites 2;cable 0 1 1;cable 0 1 1;").due("cable 1 10", -1).due("cable 0 10", 1);
        promise("6 bar").text("sites 2;cable 0 1 999;cable 0 1 999;").due("cable 0 10", 999)
                .due("cable 1 10", 998);
        promise("6 cut").text("cable 1 0 5;").due("cable 0 8", 2).due("cable 0 9", -1);
    }

    private static void ringAndTaken() {
        rings("7 ring").due("ring 2 0", 0).due("ring 2 1", 1).due("ring 2 2", NO_ELEMENT)
                .due("ring 2 -1", NO_ELEMENT).due("ring 5 0", 3).due("ring 5 1", 4).due("ring 0 0", NO_ELEMENT)
                .due("ring 6 0", NO_ELEMENT).due("ring -1 0", NO_ELEMENT)
                .due("breaks 2", 1).due("ring 2 0", NO_ELEMENT);
        promise("7 ring, from the first on").text("cable 0 1 1;cable 1 2 2;cable 3 2 3;cable 3 0 9;")
                .due("ring 3 0", 2).due("ring 3 1", 1).due("ring 3 2", 0);
        rings("8 taken").dueEach("taken", 4, 0, 1, 3).due("taken 4", NO_ELEMENT).due("taken -1", NO_ELEMENT);
    }

    private static void site() {
        rings("9 site").dueEach("site 0", 1, 1, 0, 0).dueEach("site 1", 2, 0, 0, 0).dueEach("site 2", 2, 0, 0, -1)
                .dueEach("site 3", 2, 0, 0, 2).dueEach("site 4", 1, 1, 0, 0)
                .due("site 5 0", NO_ELEMENT).due("site -1 0", NO_ELEMENT).due("site 0 4", NO_ELEMENT)
                .due("site 0 -1", NO_ELEMENT)
                .due("breaks 3", 1).due("breaks 5", 2).due("site 4 2", 3).due("site 3 2", 3).due("site 2 2", 0)
                .due("breaks 4", 3).dueEach("site 4", 0, 0, 4, -1);
    }

    private static void way() {
        rings("10 way").dueEach("way 0 4", 7, 17, 4, 13, 2).dueEach("way 4 0", 7, 17, 4, 13, 2)
                .dueEach("way 0 2", 4, 8, 2, 4, 2).dueEach("way 3 3", 0, 0, 0, 0, 0)
                .due("way 0 5 0", NO_ELEMENT).due("way -1 0 0", NO_ELEMENT).due("way 0 1 5", NO_ELEMENT)
                .due("way 0 1 -1", NO_ELEMENT)
                .due("breaks 3", 1).due("breaks 5", 2).dueEach("way 0 4", -1, -1, -1, -1, 0);
        promise("10 apart").text("sites 2;cable 0 1 5;cable 1 0 5;cable 0 1 9;broken 0;").due("way 0 1 4", 2);
        // Ways that share the site 1 but no cable are two ways.
        promise("10 apart").text("sites 3;cable 0 1 1;cable 0 1 1;cable 1 2 1;cable 2 1 1;").due("way 0 2 4", 2);
        // The first way that is found goes over 1 and 4: a second one needs its cable between these given back.
        promise("10 apart").text("sites 6;cable 0 1 1;cable 1 4 1;cable 4 5 1;cable 0 2 1;cable 2 4 1;cable 1 3 1;"
                + "cable 3 5 1;").due("way 0 5 4", 2);
    }

    private static void firm() {
        rings("11 firm").dueEach("firm 0", 34, 4, 4).dueEach("firm 1", 9, 11, 13).dueEach("firm 2", 4, 0, 0)
                .dueEach("firm 3", 16, 2, 9).due("firm 4 0", NO_ELEMENT).due("firm -1 0", NO_ELEMENT)
                .due("firm 0 3", NO_ELEMENT).due("firm 0 -1", NO_ELEMENT)
                .due("breaks 5", 1).dueEach("firm 0", 2, 4, 4).dueEach("firm 3", 16, 2, -1);
    }

    private static void shareGroupWithout() {
        rings("12 share").dueEach("share", 0, 4, 4, 7, 2).due("share 5", NO_ELEMENT).due("share -1", NO_ELEMENT)
                .due("breaks 3", 1).due("breaks 5", 2).due("share 3", -1);
        rings("13 group").due("group 1 -1", 0).due("group 1 4", 0).due("group 2 -1", 7).due("group 2 4", 3)
                .due("group 2 2", 0).due("group 3 -1", 4).due("group 3 1", 0).due("group 3 2", 2)
                .due("group 5 -1", 2).due("group 5 4", 4).due("group 0 0", NO_ARGUMENT)
                .due("group 6 0", NO_ARGUMENT).due("group 6 9", NO_ARGUMENT).due("group 5 5", NO_ELEMENT)
                .due("group 1 -2", NO_ELEMENT);
        promise("13 group, more pieces than k").text("cable 0 3 5;").due("group 2 -1", 0).due("group 2 3", 0)
                .due("group 3 -1", 0).due("group 4 -1", 5).due("group 4 3", 3);
        rings("14 without").dueEach("without 0", 13, 1).dueEach("without 2", 6, 2).dueEach("without 4", 15, 1)
                .due("without 5 0", NO_ELEMENT).due("without -1 0", NO_ELEMENT).due("without 0 2", NO_ELEMENT);
    }

    private static void alike() {
        rings("15 alike").due("alike", 3).due("price 5 7", 9).due("alike", 6).due("price 3 8", 7).due("alike", 3)
                .due("breaks 2", 1).due("alike", 1);
        // Cayley: five sites, each two joined, 5 * 5 * 5 nets.
        promise("15 alike").text("sites 5;cable 0 1 1;cable 0 2 1;cable 0 3 1;cable 0 4 1;cable 1 2 1;cable 1 3 1;"
                + "cable 1 4 1;cable 2 3 1;cable 2 4 1;cable 3 4 1;").due("alike", 125)
                .due("price 0 2", 1).due("alike", 75).due("all 0 100", 8).due("alike", 75);
        StringBuilder doubled = new StringBuilder("sites 10;");
        for (int site = 0; site < 9; site++) {
            String cable = "cable " + site + " " + (site + 1) + " 9;";
            doubled.append(cable).append(cable);
        }
        promise("15 alike").text(doubled.toString()).due("alike", 512);
    }

    private static void told() {
        rings("16 told").due("breaks 4", 1).due("breaks 0", 1).due("price 3 100", 7)
                .told("sites 5;cable 0 1 4 1;cable 1 2 4 0;cable 0 2 4 2;cable 2 3 100 1;cable 3 4 2 3;cable 2 4 9 0;"
                        + "broken 0;broken 4;");
        promise("16 told").text("cable 0 1 9;cable 0 1 10;cable 0 1 99;cable 0 1 100;")
                .told("sites 4;cable 0 1 9 0;cable 0 1 10 0;cable 0 1 99 0;cable 0 1 100 0;");
        String cable = "cable 9 8 999 3;";
        StringBuilder longest = new StringBuilder("sites 10;").append(cable.repeat(24));
        for (int i = 0; i < 24; i++) {
            longest.append("broken ").append(i).append(";");
        }
        promise("16 told").text(longest.toString()).told(longest.toString());
        promise("16 told").text(longest.toString()).told(longest.toString(), Checks.MOST_TOLD);
    }

    private static void joined() {
        rings("17 joined").due("joined 0", 0).due("joined 8", 0).due("joined 17", 13).due("joined 9", 11)
                .due("joined 19", 17).due("joined 31", 17).due("joined 24", 2).due("joined 32", NO_ARGUMENT)
                .due("joined -1", NO_ARGUMENT).due("breaks 3", 1).due("breaks 5", 2).due("joined 9", -1)
                .due("joined 16", 0);
        // Over the site 3 in the middle three others are joined for 6, by the cables of THE NET for as much or more.
        promise("17 joined").text("cable 0 3 2;cable 1 3 2;cable 2 3 2;cable 0 1 3;cable 1 2 3;cable 0 2 3;")
                .due("joined 7", 6).due("price 0 3", 2).due("joined 7", 6).due("price 3 5", 3)
                .due("price 4 5", 3).due("joined 7", 7);
        // A shared way over two further sites: 0 and 1 at one end of 4 5, 2 and 3 at the other one.
        promise("17 joined").text("sites 6;cable 0 4 3;cable 1 4 3;cable 4 5 3;cable 2 5 3;cable 3 5 3;cable 0 1 7;"
                + "cable 2 3 7;cable 0 2 8;cable 1 3 8;").due("joined 15", 15).due("joined 3", 6).due("joined 5", 8);
    }

    private static void swap() {
        rings("18 swap").due("price 0 5", 4).dueEach("swap 0", 1, 0, 0, 2, 17)
                .due("price 0 3", 5).dueEach("swap 0", 2, 0, 2, 0, 16).dueEach("swap 1", 1, 0, 0, 2, 17)
                .due("price 4 3", 2).due("count 6", 2)
                .due("swap 2 0", NO_ELEMENT).due("swap -1 0", NO_ELEMENT).due("swap 0 5", NO_ELEMENT)
                .due("swap 0 -1", NO_ELEMENT).due("count 7", 2);
    }

    /** All 24 cables join the same two sites: as each one in turn rises, the next one comes in its place. */
    private static void manySwaps() {
        Checks test = promise("18 many swaps").text("sites 2;" + "cable 0 1 100;".repeat(24));
        for (int act = 1; act <= 45; act++) {
            test.due("all 0 1", 100 + act);
            if (act == 43) {
                test.due("image", "");
            }
        }
        test.due("count 6", 60).due("count 7", 45 * 24).dueEach("swap 0", 1, 23, 23, 0, 145)
                .dueEach("swap 59", 1, 12, 12, 13, 142).due("swap 60 0", NO_ELEMENT).due("count 12", 40);
        for (int left = 39; left >= 0; left--) {
            test.due("undo", left).due("count 7", (left + 5) * 24).due("count 6", 60)
                    .due("swap 0 4", 105 + left).due("swap 59 1", 12).due("swap 59 4", 102 + left);
        }
        test.due("undo", -1).due("restore", 1).due("count 7", 43 * 24).due("count 12", 40);
        for (int left = 39; left >= 0; left--) {
            test.due("undo", left).due("swap 59 4", 100 + left);
        }
        test.due("count 7", 72).due("count 4", 103).due("swap 59 4", 100);
    }

    private static void price() {
        rings("19 price").due("price 0 4", -1).due("price 0 0", -1).due("price 0 1000", -1).due("price 6 5", -1)
                .due("price -1 5", -1).due("count 16", 5).due("count 12", 0)
                .due("price 0 999", 4).due("cable 0 2", 999).due("price 0 1", 999).due("count 12", 2)
                .due("count 4", 14).due("breaks 0", 1).due("count 6", 3).due("price 0 2", 1).due("count 6", 3)
                .due("cable 0 2", 2);
    }

    private static void all() {
        rings("20 all").due("all 1 100", 19).dueEach("swap 0", 1, 3, 3, 5, 19).dueEach("swap 1", 1, 0, 0, 2, 17)
                .due("count 12", 1).due("undo", 0).due("count 6", 0).due("cable 3 2", 7)
                .due("all 1 -50", 11).due("cable 0 2", 2).due("cable 3 2", 3).due("count 6", 0)
                .due("all 1 0", 11).due("count 12", 2).due("all 4 5", -1).due("all -1 5", -1).due("all 1 -51", -1)
                .due("all 1 101", -1).due("count 16", 4);
        promise("20 all, put to 1 .. 999").text("cable 0 1 1;cable 1 2 999;cable 2 3 500 1;broken 2;")
                .due("all 2 5", -1).due("all 0 100", 1001).due("cable 0 2", 2).due("cable 1 2", 999)
                .due("all 0 -50", 500).due("all 0 -50", 250).due("cable 0 2", 1).due("cable 1 2", 249)
                .due("all 1 99", 250).due("cable 2 2", 995).due("all 1 1", 250).due("cable 2 2", 999);
    }

    private static void breaksAndMend() {
        rings("21 breaks").due("breaks 4", 1).dueEach("swap 0", 3, 4, 4, 5, 24).due("breaks 4", -1)
                .due("breaks 6", -1).due("breaks -1", -1).due("count 16", 3)
                .due("breaks 5", 2).dueEach("swap 0", 3, 5, 5, -1, 15)
                .due("breaks 2", 2).due("count 6", 2).due("count 12", 3);
        rings("22 mend").due("mend 0", -1).due("mend 6", -1).due("mend -1", -1).due("count 16", 3)
                .due("breaks 4", 1).due("breaks 5", 2).due("mend 5", 1).dueEach("swap 0", 4, 5, -1, 5, 24)
                .due("mend 4", 1).dueEach("swap 0", 4, 4, 5, 4, 17).due("count 12", 4);
    }

    private static void lay() {
        rings("23 lay").due("lay 0 3 1 2", 6).dueEach("swap 0", 5, 6, 3, 6, 11).dueEach("cable 6", 0, 3, 1, 2, 1, 1)
                .due("lay 3 0 9 0", 7).due("count 6", 1).due("cable 7 5", 0).due("count 12", 2)
                .due("lay 0 5 1 1", -1).due("lay -1 0 1 1", -1).due("lay 2 2 1 1", -1).due("lay 0 1 0 1", -1)
                .due("lay 0 1 1000 1", -1).due("lay 0 1 1 4", -1).due("lay 0 1 1 -1", -1).due("count 16", 7)
                .due("count 1", 8);
        promise("23 lay").text("cable 0 1 5;".repeat(23)).due("lay 2 3 7 3", 23).dueEach("swap 0", 5, 23, -1, 23, 12)
                .due("lay 2 3 7 3", -1).due("count 16", 1);
    }

    private static void undo() {
        rings("24 undo").due("undo", -1).due("count 16", 0).due("price 0 9", 4).due("breaks 4", 1)
                .due("lay 0 4 1 0", 6).due("mend 4", 1).due("count 12", 4).due("note 6 true", 1).due("price 0 0", -1)
                .due("undo", 3).due("cable 4 4", 0).due("undo", 2).due("count 1", 6).due("cable 6 0", NO_ELEMENT)
                .due("lay 1 3 1 3", 6).dueEach("cable 6", 1, 3, 1, 3).due("undo", 2)
                .due("undo", 1).due("cable 4 4", 1).due("count 3", 30).due("undo", 0).due("cable 0 2", 4)
                .due("count 3", 27).due("count 4", 17).due("count 7", 0).due("undo", -1)
                .due("count 13", 1).due("count 16", 1);
        Checks test = rings("24 undo, 40 are kept");
        for (int i = 0; i < 50; i++) {
            test.due("price 0 " + (100 + i), i == 0 ? 4 : 99 + i);
        }
        test.due("count 12", 40);
        for (int left = 39; left >= 0; left--) {
            test.due("undo", left);
        }
        test.due("undo", -1).due("cable 0 2", 109);
    }

    private static void note() {
        Checks test = rings("25 note").due("note 6 true", -1).due("note -1 false", -1).due("count 17", 2);
        for (int i = 1; i <= 8; i++) {
            test.due("note 0 true", i);
        }
        test.due("note 0 true", -1).due("count 13", 8).due("count 17", 3).due("forget", "").due("count 13", 0)
                .due("note 5 false", 1).due("count 17", 3);
    }

    private static void fits() {
        rings("26 fits").dueEach("fits 3", 999, 1).due("note 5 false", 1).dueEach("fits 3", 9, 1)
                .due("note 3 true", 2).dueEach("fits 3", 9, 1).due("forget", "")
                .due("note 5 true", 1).dueEach("fits 3", 990, 10).dueEach("fits 5", 6, 1).dueEach("fits 0", 0, -1)
                .due("note 5 false", 2).dueEach("fits 3", 0, -1)
                .due("fits 3 2", NO_ELEMENT).due("fits 3 -1", NO_ELEMENT).due("fits 6 0", NO_ELEMENT)
                .due("breaks 3", 1).due("fits 3 0", NO_STATE).due("fits 3 2", NO_ELEMENT);
        promise("26 fits, a bar of 999 or none").text("sites 3;cable 0 1 5;cable 1 2 1;cable 1 2 1;")
                .due("note 0 false", 1).dueEach("fits 0", 0, -1).due("forget", "").due("note 2 true", 1)
                .dueEach("fits 2", 0, -1).dueEach("fits 1", 998, 2).due("forget", "").due("note 2 false", 1)
                .dueEach("fits 2", 999, 1).dueEach("fits 0", 999, 1);
        promise("26 fits, without a text").due("lay 0 1 5 0", 0).due("fits 0 0", 999).due("lay 0 1 5 0", 1)
                .due("fits 0 0", 999).due("fits 1 0", 999);
        rings("26 fits, noted of a cable that is gone").due("lay 0 4 9 0", 6).due("note 6 false", 1)
                .due("undo", 0).due("fits 0 0", 999).due("note 6 true", -1).due("lay 0 4 9 0", 6)
                .due("note 6 true", 2).due("forget", "").due("note 6 true", 1).due("undo", 0).due("fits 0 0", 0);
    }

    private static void look() {
        rings("27 look").due("look 3", 5).due("look 5", 3).due("look 0", 2).due("look 4", 5).due("look 2", 1)
                .due("note 5 false", 1).due("look 3", -1).due("look 0", 2).due("look 6", NO_ELEMENT)
                .due("look -1", NO_ELEMENT).due("breaks 3", 1).due("look 3", NO_STATE).due("look 5", -1);
        promise("27 look, a bar of 999 or none").text("sites 2;cable 0 1 999;cable 0 1 999;").due("look 0", -1)
                .due("look 1", 0).due("price 0 1", 999).due("price 1 1", 999).due("look 0", 1).due("look 1", -1);
        promise("28 forget").due("forget", "").due("count 13", 0).text("cable 0 1 1;").due("note 0 false", 1)
                .due("fits 0 0", 0).due("forget", "").due("fits 0 0", 999).due("look 0", -1);
    }

    /**
     * The seed 1 draws 16838, 5758 (cable 4 breaks), 10113, 17515, 31051 (cable 1 goes 6 down to 1),
     * 5627, 23010, 7419 (cable 0 goes 19 up to 23).
     */
    private static void years() {
        rings("29 years").dueEach("years 1 0", 17, 0, 1).dueEach("years 1 1", 24, 1, 1)
                .dueEach("years 1 2", 21, 1, 1).dueEach("years 1 3", 21, 2, 1)
                .due("count 4", 17).due("count 6", 0).due("count 12", 0)
                .due("years 1 61 0", NO_ARGUMENT).due("years 1 -1 2", NO_ARGUMENT).due("years 1 61 3", NO_ELEMENT)
                .due("years 1 1 -1", NO_ELEMENT);
        promise("29 years").dueEach("years 1 60", 0, 0, 4);
        promise("29 years").text("sites 2;cable 0 1 5;").dueEach("years 1 1", 0, 1, 2);
    }

    private static void image() {
        rings("30 image").due("restore", 0).due("price 0 9", 4).due("note 1 true", 1).due("price 0 9", -1)
                .due("image", "").due("undo", 0).due("lay 0 4 1 1", 6).due("forget", "").due("breaks 9", -1)
                .due("note 99 true", -1).due("restore", 1)
                .due("count 1", 6).due("cable 0 2", 9).due("count 12", 1).due("count 13", 1).due("count 16", 1)
                .due("count 17", 0).due("count 6", 1).due("count 3", 30).due("undo", 0).due("cable 0 2", 4)
                .due("count 6", 0).due("restore", 1).due("cable 0 2", 9).due("image", "")
                .due("undo", 0).due("image", "").due("price 0 7", 4).due("restore", 1).due("cable 0 2", 4)
                .due("count 12", 0);
        rings("31 restore, the tape and the fault stay").due("image", "").text("x", 1, 0).due("feed 0 0 0 0 0", 20)
                .due("restore", 1).due("count 14", 20).due("fault", 0).due("count 15", 0);
        rings("31 restore, ends of a cable laid anew").due("lay 0 4 1 1", 6).due("image", "").due("undo", 0)
                .due("lay 1 3 8 2", 6).due("restore", 1).dueEach("cable 6", 0, 4, 1, 1);
    }

    private static void status() {
        promise("status stays for a new text").text("x", 1, 0).due("price 0 1", -1).due("note 0 true", -1).text(RINGS)
                .due("count 15", 1).due("count 16", 1).due("count 17", 1);
    }
}
