import java.util.ArrayList;
import java.util.List;
import java.util.Random;

/** Runs of calls by chance, always the same ones, on the class and on the model: they answer alike. */
public final class ModelTests {
    private static final int RUNS = 300;
    private static final int CALLS = 512;

    private static final String[] ACTS = {"price", "all", "breaks", "mend", "mend", "lay", "undo", "price", "price", "price", "price"};
    private static final String[] CROWD = {"all", "all", "all", "all", "undo", "price", "swap", "swap", "count"};
    private static final String[] QUESTIONS = {"count", "cable", "ring", "taken", "site", "way", "firm", "share",
        "group", "without", "alike", "told", "joined", "swap", "note", "fits", "look", "years", "cable", "way",
        "count", "swap", "count", "joined", "cable", "fault", "note"};

    private final Random random;
    private final Calls keeper = new Calls(new CableKeeper());
    private final Calls model = new Calls(new Model());
    private final List<String> made = new ArrayList<>();
    private int sites = 4;
    private int cables = 0;
    private int leastPrice = 1;
    private int mostPrice = 9;
    /** Many cables of one firm and one price between few sites: each act of the firm makes many swaps. */
    private boolean crowded = false;
    /** Of four calls so many are questions. */
    private int questions = 3;
    private int undos = 0;

    private ModelTests(int seed) {
        // Seeds that lie close together begin alike, so they are put far apart.
        random = new Random(seed * 0x9E3779B97F4A7C15L);
    }

    public static void main(String[] args) {
        int from = args.length > 0 ? Integer.parseInt(args[0]) : 1;
        int to = args.length > 1 ? Integer.parseInt(args[1]) : RUNS;
        int wrong = 0;
        for (int seed = from; seed <= to && wrong < 5; seed++) {
            String fault = new ModelTests(seed).run();
            if (fault != null) {
                wrong++;
                System.out.println("run " + seed + ": " + fault);
            }
        }
        System.out.println(wrong == 0 ? "the class answers as the model does" : wrong + " runs answer otherwise");
        if (wrong != 0) {
            System.exit(1);
        }
    }

    private String run() {
        mostPrice = new int[] {1, 2, 3, 9, 60, 999}[random.nextInt(6)];
        crowded = random.nextInt(6) == 0;
        if (crowded) {
            leastPrice = 100;
            mostPrice = 100;
        }
        questions = random.nextInt(4);
        String fault = tellText();
        while (fault == null && made.size() < CALLS) {
            fault = random.nextInt(150) == 0 ? tellText() : compare(nextCall());
        }
        return fault;
    }

    private String compare(String call) {
        if (made.size() >= CALLS) {
            return null;
        }
        String want = model.answer(call);
        String got = keeper.answer(call);
        made.add(call + " -> " + want);
        if (call.startsWith("lay ") && !want.equals("-1")) {
            cables++;
        }
        if (want.equals(got)) {
            return null;
        }
        return call + " answered " + got + ", due is " + want + ", behind\n  " + String.join("\n  ", made);
    }

    private String tellText() {
        sites = random.nextInt(6) == 0 ? 4 : 2 + random.nextInt(crowded ? 2 : 9);
        cables = crowded ? 24 : random.nextInt(random.nextInt(3) == 0 ? 25 : 13);
        StringBuilder text = new StringBuilder(sites == 4 ? "" : "sites " + sites + ";");
        for (int cable = 0; cable < cables; cable++) {
            int first = random.nextInt(sites);
            int second = (first + 1 + random.nextInt(sites - 1)) % sites;
            text.append("cable ").append(first).append(' ').append(second).append(' ');
            text.append(leastPrice + random.nextInt(mostPrice - leastPrice + 1));
            text.append(crowded || random.nextInt(3) == 0 ? "" : " " + random.nextInt(4)).append(';');
        }
        for (int cable = 0; cable < cables; cable++) {
            text.append(random.nextInt(6) == 0 ? "broken " + cable + ";" : "");
        }
        if (random.nextInt(crowded ? 20 : 3) == 0) {
            spoil(text);
        }
        for (String feed : Calls.feeds(text.toString())) {
            String fault = compare(feed);
            if (fault != null) {
                return fault;
            }
        }
        String fault = compare("net " + text.length());
        return fault != null ? fault : compare("fault");
    }

    private void spoil(StringBuilder text) {
        String[] parts = {";", "x", "broken", "sites 5;", "cable", "0", "9", "1000", " ", "\n", "-", "\u00e9", "23",
            "cable 0 1 7;", "broken 0;", "24", "999", "A", "000", "0001", "3", "cable 1 1 4;", "broken 7;", "cable 0 7 7;"};
        for (int times = 1 + random.nextInt(2); times > 0; times--) {
            int at = random.nextInt(text.length() + 1);
            int next = text.indexOf(random.nextBoolean() ? ";" : " ", at);
            if (random.nextInt(4) == 0 && at < text.length()) {
                text.delete(at, Math.min(text.length(), at + 1 + random.nextInt(3)));
            } else if (text.length() < 680) {
                boolean between = next >= 0 && random.nextBoolean();
                text.insert(between ? next + 1 : at, parts[random.nextInt(parts.length)]);
            }
        }
    }

    private String nextCall() {
        if (undos > 0) {
            undos--;
            return "undo";
        }
        int kind = random.nextInt(100);
        if (kind == 0) {
            return "image";
        }
        if (kind == 1) {
            return "restore";
        }
        if (kind == 2) {
            return "forget";
        }
        if (kind == 3) {
            return "net " + (random.nextBoolean() ? -random.nextInt(3) - 1 : 701);
        }
        if (kind == 4 && random.nextInt(4) == 0) {
            return "feed 0 1 2 3 4";
        }
        String[] names = random.nextInt(4) < questions ? QUESTIONS : crowded ? CROWD : ACTS;
        String name = names[random.nextInt(names.length)];
        if (mostPrice < 3 && name.equals("all")) {
            name = "mend";
        }
        if (name.equals("undo") && random.nextInt(12) == 0) {
            undos = random.nextInt(45);
        }
        return name + arguments(name);
    }

    /** Now and then a number that is far off. */
    private int number(int from, int to) {
        if (random.nextInt(60) == 0) {
            int[] odd = {Integer.MIN_VALUE, Integer.MAX_VALUE, -1, from - 1, to + 1, 32, 64};
            return odd[random.nextInt(odd.length)];
        }
        return from + random.nextInt(Math.max(1, to - from + 1));
    }

    private int aCable() {
        return number(0, cables - 1);
    }

    private int aSite() {
        return number(0, sites - 1);
    }

    private String arguments(String name) {
        return switch (name) {
            case "count" -> list(crowded ? number(6, 8) : number(0, 22));
            case "cable" -> list(aCable(), number(0, 11));
            case "ring" -> list(aCable(), number(0, 3));
            case "taken" -> list(number(0, 8));
            case "site" -> list(aSite(), number(0, 3));
            case "way" -> list(aSite(), aSite(), number(0, 4));
            case "firm" -> list(number(0, 3), number(0, 2));
            case "share" -> list(aSite());
            case "group" -> list(number(1, sites), number(-1, sites - 1));
            case "without" -> list(aSite(), number(0, 1));
            case "told" -> list(number(-1, 80));
            case "joined" -> list(number(0, (1 << sites) - 1));
            case "swap" -> list(random.nextBoolean() ? number(0, 3) : number(0, 60), number(0, 4));
            case "price" -> list(aCable(), number(1, crowded ? 999 : mostPrice));
            case "all" -> crowded ? list(0, number(1, 3)) : list(number(0, 3), number(-50, 100));
            case "breaks", "mend", "look" -> list(aCable());
            case "lay" -> list(aSite(), aSite(), number(1, mostPrice), number(0, 3));
            case "note" -> list(aCable()) + " " + random.nextBoolean();
            case "fits" -> list(aCable(), number(0, 1));
            case "years" -> list(random.nextInt(), number(0, 60), number(0, 2));
            default -> "";
        };
    }

    private static String list(int... numbers) {
        StringBuilder list = new StringBuilder();
        for (int number : numbers) {
            list.append(' ').append(number);
        }
        return list.toString();
    }
}
