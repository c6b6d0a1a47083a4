import java.io.IOException;
import java.nio.file.Files;
import java.nio.file.Path;
import java.util.BitSet;
import java.util.HashSet;
import java.util.Set;
import java.util.regex.Matcher;
import java.util.regex.Pattern;

/** The document's sentences: a test is named by its promise and the very words that it tests. */
final class Sentences {
    private static final Path DOCUMENT = Path.of("../shared/DOC.md");
    private static final String TERMS = "## Terms";
    /** Each sign of the document that some test of this run has in its name. */
    private static final BitSet QUOTED = new BitSet();

    private final String document;
    private final int from;
    private final int to;
    private final Set<Integer> tested = new HashSet<>();

    /** Of the promises from one to another one. */
    Sentences(int from, int to) throws IOException {
        this.from = from;
        this.to = to;
        document = Files.readString(DOCUMENT);
    }

    /** A test of words that stand under the promise itself. */
    Checks promise(int promise, String words) {
        return test(promise, "## Promise " + promise + ":", words);
    }

    /** A test of words that stand under Terms, seen by a call of this promise. */
    Checks term(int promise, String words) {
        return test(promise, TERMS, words);
    }

    /** A test of words that tell how an object is used, seen by a call of this promise. */
    Checks use(int promise, String words) {
        return test(promise, "## What it is", words);
    }

    private Checks test(int promise, String heading, String words) {
        if (promise < from || promise > to) {
            Checks.fail("promise " + promise + " has its tests elsewhere");
        }
        tested.add(promise);
        String name = "promise " + promise + ", \"" + words + "\"";
        int start = Math.max(0, document.indexOf("\n" + heading));
        int end = document.indexOf("\n## ", start + 1);
        int at = document.indexOf(words, start);
        if (at < 0 || end >= 0 && at + words.length() > end) {
            Checks.fail(name + ": the document doesn't say so under " + heading);
        } else {
            QUOTED.set(at, at + words.length());
        }
        return new Checks(name);
    }

    /** Fails for each stretch of the document, down to its last promise, that no test of this run has in its name. */
    static void failUnquoted() throws IOException {
        String document = Files.readString(DOCUMENT);
        BitSet rest = new BitSet();
        rest.set(0, document.indexOf("## Not promised"));
        // Headings, the public face and the heads of calls are no sentences.
        Matcher heads = Pattern.compile("(?m)^(#+ .*|```java\n(?s:.*?)^```|```.*|`[^`]*`:|==== \\d\\.)")
                .matcher(document);
        while (heads.find()) {
            rest.clear(heads.start(), heads.end());
        }
        rest.andNot(QUOTED);
        for (int at = rest.nextSetBit(0); at >= 0; at = rest.nextSetBit(rest.nextClearBit(at))) {
            String words = document.substring(at, rest.nextClearBit(at)).strip();
            if (words.matches("(?s).*\\w.*")) {
                Checks.fail("no test has in its name: " + words);
            }
        }
    }

    void end() {
        for (int promise = from; promise <= to; promise++) {
            if (!tested.contains(promise)) {
                Checks.fail("promise " + promise + " has no test here");
            }
        }
    }
}
