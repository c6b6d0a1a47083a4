import java.util.ArrayList;
import java.util.List;
import java.util.Random;

/** Every question with every argument, one too little and one too much among them, for the largest and least texts. */
public final class SweepTests {
    private static final int CALLS = 512;

    private final List<String> setting;
    private Calls keeper;
    private Calls model;
    private int made = CALLS;
    private int wrong = 0;

    private SweepTests(List<String> setting) {
        this.setting = setting;
    }

    public static void main(String[] args) {
        int wrong = sweep("", 4, 0, new Random(1));
        Random random = new Random(20261118);
        for (int each = 0; each < 12; each++) {
            int sites = each < 8 ? 10 : 2 + random.nextInt(3);
            int cables = each < 10 ? 24 : random.nextInt(3);
            wrong += sweep(text(random, sites, cables, each), sites, cables, random);
        }
        System.out.println(wrong == 0 ? "every question is answered as by the model" : wrong + " answers are otherwise");
        if (wrong != 0) {
            System.exit(1);
        }
    }

    /** Of every other text the last site hangs on one cable, which is the last of them all. */
    private static String text(Random random, int sites, int cables, int each) {
        StringBuilder text = new StringBuilder("sites " + sites + ";");
        int mostPrice = new int[] {1, 3, 30, 999}[each % 4];
        boolean hangs = each % 2 == 1 && sites > 3;
        int many = hangs ? sites - 1 : sites;
        for (int cable = 0; cable < cables; cable++) {
            boolean last = hangs && cable == cables - 1;
            int first = last ? many : random.nextInt(many);
            int second = last ? 0 : (first + 1 + random.nextInt(many - 1)) % many;
            text.append("cable ").append(first).append(' ').append(second).append(' ');
            text.append(last ? 999 : 1 + random.nextInt(mostPrice)).append(' ').append(random.nextInt(4)).append(';');
        }
        if (each > 5 && cables > 1) {
            text.append("broken 1;");
        }
        return text.toString();
    }

    private static int sweep(String text, int sites, int cables, Random random) {
        List<String> setting = new ArrayList<>(List.of(Calls.feeds(text)));
        setting.add("net " + text.length());
        if (cables > 0) {
            setting.add("note " + random.nextInt(cables) + " " + random.nextBoolean());
        }
        SweepTests test = new SweepTests(setting);
        test.ask("count", 23);
        test.ask("cable", cables, 12);
        test.ask("ring", cables, 9);
        test.ask("taken", 9);
        test.ask("site", sites, 4);
        test.ask("way", sites, sites, 5);
        test.ask("firm", 4, 3);
        test.ask("share", sites);
        test.ask("group", sites + 1, sites);
        test.ask("without", sites, 2);
        test.ask("alike");
        test.ask("told", 640);
        test.ask("swap", 0, 0);
        test.ask("fits", cables, 2);
        test.ask("look", cables);
        for (int i = 0; i < 40; i++) {
            test.compare("joined " + random.nextInt(1 << sites));
        }
        test.compare("joined " + (1 << sites));
        test.compare("joined -1");
        return test.wrong;
    }

    /** The call with all arguments from -1 up to these. */
    private void ask(String call, int... upTo) {
        if (upTo.length == 0) {
            compare(call);
            return;
        }
        int[] rest = new int[upTo.length - 1];
        System.arraycopy(upTo, 1, rest, 0, rest.length);
        for (int argument = -1; argument <= upTo[0]; argument++) {
            ask(call + " " + argument, rest);
        }
    }

    private void compare(String call) {
        if (made >= CALLS) {
            keeper = new Calls(new CableKeeper());
            model = new Calls(new Model());
            for (String each : setting) {
                keeper.answer(each);
                model.answer(each);
            }
            made = setting.size();
        }
        made++;
        String want = model.answer(call);
        String got = keeper.answer(call);
        if (!want.equals(got)) {
            wrong++;
            System.out.println(call + " answered " + got + ", due is " + want + ", behind " + setting);
        }
    }
}
