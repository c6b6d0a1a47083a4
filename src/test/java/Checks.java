/** A run of calls on one new object, each with the answer that is due; under a name that tells what it tests. */
final class Checks {
    static final String NO_ELEMENT = "NoSuchElementException";
    static final String NO_ARGUMENT = "IllegalArgumentException";
    static final String NO_STATE = "IllegalStateException";

    /**
     * Two rings that meet at site 2. THE NET: cables 4, 0, 1, 3 (taken so), which cost 2 + 4 + 4 + 7; outside
     * are 2 (ring 0 1) and 5 (ring 3 4).
     */
    static final String RINGS =
            "sites 5;cable 0 1 4 1;cable 1 2 4;cable 0 2 4 2;cable 2 3 7 1;cable 3 4 2 3;cable 2 4 9;";

    static final int MOST_TOLD = 400;

    private static final int MOST_CALLS = 512;

    private static int wrong = 0;

    private final String name;
    private final Calls calls = new Calls(new CableKeeper());
    private int made = 0;

    Checks(String name) {
        this.name = name;
    }

    static void fail(String what) {
        wrong++;
        System.out.println(what);
    }

    /** The last line of a test's main. */
    static void end(String allWell) {
        System.out.println(wrong == 0 ? allWell : wrong + " answers are not as due");
        if (wrong != 0) {
            System.exit(1);
        }
    }

    /** Behind its 512th call nothing is promised of an object, so no test may ask for more. */
    private String answer(String call) {
        made++;
        if (made == MOST_CALLS + 1) {
            fail(name + ": the test makes more than " + MOST_CALLS + " calls");
        }
        return calls.answer(call);
    }

    Checks due(String call, Object want) {
        String got = answer(call);
        if (!got.equals(want.toString())) {
            fail(name + ": " + call + " answered " + got + ", due is " + want);
        }
        return this;
    }

    /** The answers to "name what" for what 0, 1 .. */
    Checks dueEach(String call, int... want) {
        for (int what = 0; what < want.length; what++) {
            due(call + " " + what, want[what]);
        }
        return this;
    }

    /** The same answer to each of these calls. */
    Checks dueAll(Object want, String... each) {
        for (String call : each) {
            due(call, want);
        }
        return this;
    }

    Checks feed(String text) {
        for (String feed : Calls.feeds(text)) {
            answer(feed);
        }
        return this;
    }

    Checks text(String text, int fault, int at) {
        return feed(text).due("net " + text.length(), fault).due("fault", at);
    }

    /** A text whose fault stands where the sign ^ does, which is no part of the text. */
    Checks faulty(int fault, String... marked) {
        for (String each : marked) {
            text(each.replace("^", ""), fault, each.indexOf('^'));
        }
        return this;
    }

    Checks right(String... texts) {
        for (String each : texts) {
            text(each);
        }
        return this;
    }

    Checks text(String text) {
        return text(text, 0, -1);
    }

    Checks told(String text) {
        return told(text, 0);
    }

    /** As told(text), but only the bytes from this one on: the longest text has more of them than calls are promised. */
    Checks told(String text, int from) {
        due("told -1", text.length());
        for (int i = from; i < text.length() && i < from + MOST_TOLD; i++) {
            due("told " + i, (int) text.charAt(i));
        }
        return due("told " + text.length(), NO_ELEMENT).due("told -2", NO_ELEMENT);
    }
}
