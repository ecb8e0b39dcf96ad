import java.io.IOException;
import java.nio.file.Files;
import java.nio.file.Path;
import java.util.ArrayList;
import java.util.List;
import java.util.Set;
import java.util.TreeSet;
import java.util.function.IntToLongFunction;

/**
 * Looks at the sentences of the document that name an edge. Each is quoted ahead of what is looked at, so
 * that a failure tells which one is broken. A quote that the document has not, and one behind which
 * nothing is looked at, fail as well.
 */
final class Edges {
    /** All that was quoted so far, by all tests of one run; SentenceTest asks for it. */
    static final List<String> QUOTED = new ArrayList<>();
    static final Set<Integer> PROMISES = new TreeSet<>();

    private final Check check = new Check();
    private final String doc = document();
    private int promise;
    private String quote = "";
    private boolean isLookedAt = true;

    /** The document in one line, with single blanks. */
    static String document() {
        try {
            return flat(Files.readString(Path.of("../shared/DOC.md")));
        } catch (IOException e) {
            throw new IllegalStateException("the tests are run from the project's own folder", e);
        }
    }

    static String flat(String text) {
        return text.replaceAll("```(text|java)?", " ").replaceAll("\\s+", " ");
    }

    /** What follows is what these words of the document ask of a promise. */
    void says(int ofPromise, String words) {
        close();
        promise = ofPromise;
        quote = words;
        QUOTED.add(words);
        PROMISES.add(ofPromise);
        isLookedAt = false;
        if (!doc.contains(words)) {
            check.due(promise, "the document says \"" + words + "\"", false, true);
        }
    }

    private void close() {
        if (!isLookedAt) {
            check.due(promise, "answers looked at for \"" + quote + "\"", 0, 1);
        }
    }

    private String named(String what) {
        isLookedAt = true;
        return "\"" + quote + "\": " + what;
    }

    void due(String what, long got, long want) {
        check.due(promise, named(what), got, want);
    }

    void due(String what, boolean got, boolean want) {
        check.due(promise, named(what), got, want);
    }

    /** An answer with STATUS 0. */
    void good(FewEnds x, String what, long got, long want) {
        check.good(promise, x, named(what), got, want);
    }

    void good(FewEnds x, String what, boolean got) {
        check.good(promise, x, named(what), got);
    }

    /** NONE with another STATUS. */
    void none(FewEnds x, String what, long got, int status) {
        check.none(promise, x, named(what), got, status);
    }

    void refused(FewEnds x, String what, boolean got, int status) {
        check.refused(promise, x, named(what), got, status);
    }

    /** Answers of one call, for 0, 1 and so on, each with STATUS 0. */
    void row(FewEnds x, String call, IntToLongFunction asked, long... due) {
        for (int k = 0; k < due.length; k++) {
            long got = asked.applyAsLong(k);
            good(x, call + "(" + k + ")", got, due[k]);
        }
    }

    /** To which STITCHES LINKS go, and from which they come; -1 without. */
    void links(FewEnds x, int... goes) {
        for (int i = 0; i < goes.length; i++) {
            long got = x.goes(i);
            if (goes[i] == -1) {
                none(x, "goes(" + i + ")", got, 6);
            } else {
                good(x, "goes(" + i + ")", got, goes[i]);
                good(x, "comes(" + goes[i] + ")", x.comes(goes[i]), i);
            }
        }
    }

    void end(String test) {
        close();
        check.end(test);
    }
}
