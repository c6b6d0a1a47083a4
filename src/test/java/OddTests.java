import java.util.ArrayList;
import java.util.List;

/**
 * Wrong numbers, near and far: each call with each one or two of its arguments so, compared with the model; a call
 * that the machine itself would end is otherwise than the model's.
 */
public final class OddTests {
    private static final int CALLS = 512;

    private static final int[] ODD = {Integer.MIN_VALUE, Integer.MIN_VALUE + 1, -65536, -64, -33, -32, -31, -2, -1, 4,
        8, 10, 16, 24, 25, 31, 32, 33, 63, 64, 99, 256, 1000, 1024, 65536, 1 << 30, Integer.MAX_VALUE - 1,
        Integer.MAX_VALUE};

    /** Each call with arguments that are right in most settings. */
    private static final String[] RIGHT = {"feed 0 0 0 0 0", "net 0", "count 3", "cable 0 6", "ring 0 0", "taken 0",
        "site 1 2", "way 0 1 0", "firm 0 2", "share 1", "group 2 0", "without 0 0", "told 3", "joined 3", "swap 0 0",
        "price 0 7", "all 0 1", "breaks 0", "mend 0", "lay 0 1 5 0", "note 0 true", "fits 0 0", "look 0",
        "years 1 2 0"};

    private static final String[] SETTINGS = {"", Checks.RINGS, Checks.RINGS + "broken 0;broken 5;",
        "sites 2;cable 0 1 6;cable 0 1 5;", "sites 2;cable 0 1 5;", "sites 10;" + "cable 9 8 5;".repeat(24)};

    private final String text;
    private Calls keeper;
    private Calls model;
    private int made = CALLS;
    private int wrong = 0;

    private OddTests(String text) {
        this.text = text;
    }

    public static void main(String[] args) {
        int wrong = 0;
        for (String text : SETTINGS) {
            OddTests test = new OddTests(text);
            for (String call : RIGHT) {
                test.ask(call.split(" "));
            }
            wrong += test.wrong;
        }
        System.out.println(wrong == 0 ? "wrong numbers are answered as by the model" : wrong + " answers are otherwise");
        if (wrong != 0) {
            System.exit(1);
        }
    }

    private void ask(String[] words) {
        compare(String.join(" ", words));
        for (int one = 1; one < words.length; one++) {
            for (String[] odd : with(words, one)) {
                compare(String.join(" ", odd));
                for (int two = one + 1; two < words.length; two++) {
                    for (String[] both : with(odd, two)) {
                        compare(String.join(" ", both));
                    }
                }
            }
        }
    }

    private static List<String[]> with(String[] words, int at) {
        List<String[]> calls = new ArrayList<>();
        if (words[at].equals("true")) {
            calls.add(replaced(words, at, "false"));
            return calls;
        }
        for (int number : ODD) {
            calls.add(replaced(words, at, Integer.toString(number)));
        }
        return calls;
    }

    private static String[] replaced(String[] words, int at, String word) {
        String[] copy = words.clone();
        copy[at] = word;
        return copy;
    }

    private void begin() {
        keeper = new Calls(new CableKeeper());
        model = new Calls(new Model());
        made = 0;
        for (String feed : Calls.feeds(text)) {
            compare(feed);
        }
        compare("net " + text.length());
        // So that there is a swap to ask for in most settings, and one more act.
        compare("breaks 0");
        compare("mend 0");
    }

    private void compare(String call) {
        if (made >= CALLS) {
            begin();
        }
        made++;
        String want = model.answer(call);
        String got = keeper.answer(call);
        if (!want.equals(got)) {
            wrong++;
            System.out.println(call + " answered " + got + ", due is " + want + ", behind " + text);
        }
    }
}
