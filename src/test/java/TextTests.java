import java.util.Random;

/** Texts by chance, always the same ones, most of them nearly right: class and model find the same fault. */
public final class TextTests {
    private static final int TEXTS = 30000;

    private static final String[] CLAUSES = {"sites 3;", "sites 10;", "cable 0 1 5;", "cable 2 0 999 3;",
        "cable 1 2 07 0;", "cable 1 1 5;", "broken 0;", "broken 1;", "broken 2;", "cable 0 3 1;", "cable 3 1 12 2;"};
    private static final String[] TOKENS = {"sites", "cable", "broken", "cables", "site", "x", ";", "0", "1", "2",
        "3", "4", "5", "9", "10", "11", "23", "24", "999", "000", "1000", "0001", "99999999999999999999",
        "-", "C", "\u0000", "\u00ff", "\t", "\r", ":"};
    private static final String[] BLANKS = {"", "", " ", " ", "\n", "  "};

    private TextTests() {
    }

    public static void main(String[] args) {
        Random random = new Random(20261118);
        int wrong = 0;
        int[] faults = new int[6];
        for (int i = 0; i < TEXTS && wrong < 5; i++) {
            String text = text(random);
            Calls keeper = new Calls(new CableKeeper());
            Calls model = new Calls(new Model());
            String got = answers(keeper, text);
            String want = answers(model, text);
            faults[Integer.parseInt(want.substring(0, 1))]++;
            if (!got.equals(want)) {
                wrong++;
                System.out.println("text \"" + text + "\" answered " + got + ", due is " + want);
            }
        }
        for (int fault = 0; fault < faults.length; fault++) {
            if (faults[fault] < 100) {
                wrong++;
                System.out.println("only " + faults[fault] + " texts have fault " + fault);
            }
        }
        System.out.println(wrong == 0 ? "texts are read as the model reads them" : wrong + " faults");
        if (wrong != 0) {
            System.exit(1);
        }
    }

    private static String text(Random random) {
        StringBuilder text = new StringBuilder();
        for (int left = random.nextInt(8); left > 0; left--) {
            String clause = CLAUSES[random.nextInt(CLAUSES.length)];
            String[] tokens = clause.replace(";", " ;").split(" ");
            if (random.nextInt(5) == 0) {
                tokens[random.nextInt(tokens.length)] = TOKENS[random.nextInt(TOKENS.length)];
            }
            for (String token : tokens) {
                text.append(random.nextInt(60) == 0 ? "" : token);
                boolean digit = Character.isDigit(token.charAt(token.length() - 1));
                text.append(digit && random.nextInt(20) > 0 ? " " : BLANKS[random.nextInt(BLANKS.length)]);
            }
        }
        if (random.nextInt(12) == 0) {
            text.append(TOKENS[random.nextInt(TOKENS.length)]);
        }
        return text.toString();
    }

    private static String answers(Calls calls, String text) {
        for (String feed : Calls.feeds(text)) {
            calls.answer(feed);
        }
        StringBuilder answers = new StringBuilder(calls.answer("net " + text.length()));
        for (String call : new String[] {"fault", "count 0", "count 1", "count 2", "count 3", "count 15", "told -1"}) {
            answers.append(' ').append(calls.answer(call));
        }
        return answers.toString();
    }
}
