import java.io.IOException;
import java.nio.file.Files;
import java.nio.file.Path;
import java.util.HashSet;
import java.util.Set;

/** The document's sentences: a test is named by its promise and the very words that it tests. */
final class Sentences {
    private static final Path DOCUMENT = Path.of("../shared/DOC.md");
    private static final String TERMS = "## Terms";

    private final String document;
    private final int from;
    private final int to;
    private final Set<Integer> tested = new HashSet<>();

    /** Of the promises from one to another one. */
    Sentences(int from, int to) throws IOException {
        this.from = from;
        this.to = to;
        document = Files.readString(DOCUMENT);
    }

    /** A test of words that stand under the promise itself. */
    Checks promise(int promise, String words) {
        return test(promise, "## Promise " + promise + ":", words);
    }

    /** A test of words that stand under Terms, seen by a call of this promise. */
    Checks term(int promise, String words) {
        return test(promise, TERMS, words);
    }

    /** A test of words that tell how an object is used, seen by a call of this promise. */
    Checks use(int promise, String words) {
        return test(promise, "## What it is", words);
    }

    private Checks test(int promise, String heading, String words) {
        if (promise < from || promise > to) {
            Checks.fail("promise " + promise + " has its tests elsewhere");
        }
        tested.add(promise);
        String name = "promise " + promise + ", \"" + words + "\"";
        if (!part(heading).contains(words)) {
            Checks.fail(name + ": the document doesn't say so under " + heading);
        }
        return new Checks(name);
    }

    private String part(String heading) {
        int start = document.indexOf("\n" + heading);
        if (start < 0) {
            return "";
        }
        int end = document.indexOf("\n## ", start + 1);
        return end < 0 ? document.substring(start) : document.substring(start, end);
    }

    void end() {
        for (int promise = from; promise <= to; promise++) {
            if (!tested.contains(promise)) {
                Checks.fail("promise " + promise + " has no test of a boundary case");
            }
        }
        Checks.end("every boundary case of promises " + from + " to " + to + " holds");
    }
}
