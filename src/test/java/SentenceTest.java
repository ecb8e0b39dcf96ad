import java.util.ArrayList;
import java.util.List;
import java.util.regex.Matcher;
import java.util.regex.Pattern;

/**
 * That no sentence of the document is left out by the tests of its edges: it runs them, and looks which
 * words of the document they quoted.
 */
public final class SentenceTest {
    private static final Check CHECK = new Check();
    private static final String DOC = Edges.document();

    public static void main(String[] args) {
        TrayEdgeTest.main(args);
        TextEdgeTest.main(args);
        StitchEdgeTest.main(args);
        LeastEdgeTest.main(args);
        PictureEdgeTest.main(args);
        DirectionsEdgeTest.main(args);
        StatusEdgeTest.main(args);
        boolean[] quoted = quoted();
        promises();
        sentences(quoted);
        numbers(quoted);
        CHECK.end("SentenceTest");
    }

    /** Which signs of the document stand in a quote; one that stands there several times counts each time. */
    private static boolean[] quoted() {
        boolean[] quoted = new boolean[DOC.length()];
        for (String quote : Edges.QUOTED) {
            for (int at = DOC.indexOf(quote); at >= 0; at = DOC.indexOf(quote, at + 1)) {
                java.util.Arrays.fill(quoted, at, at + quote.length(), true);
            }
        }
        return quoted;
    }

    private static void promises() {
        for (int promise = 1; promise <= 66; promise++) {
            CHECK.due(promise, "its edges are tested", Edges.PROMISES.contains(promise), true);
        }
    }

    private static boolean any(boolean[] quoted, int from, int to) {
        for (int k = from; k < to; k++) {
            if (quoted[k]) {
                return true;
            }
        }
        return false;
    }

    private static boolean all(boolean[] quoted, int from, int to) {
        for (int k = from; k < to; k++) {
            if (!quoted[k]) {
                return false;
            }
        }
        return true;
    }

    /** The parts of the document that bind the answers: its Terms, its sections, its promises. */
    private static List<int[]> parts() {
        List<int[]> parts = new ArrayList<>();
        parts.add(new int[] {DOC.indexOf("An object is used"), DOC.indexOf("## The public face")});
        parts.add(new int[] {DOC.indexOf("TRAYS 0 to 3 are MISSING"), DOC.indexOf("Ahead of the calls `tray`")});
        Matcher promise = Pattern.compile("## Promise \\d+: [^`]*`[^`]*`: (.*?)(?= ## )").matcher(DOC);
        while (promise.find()) {
            parts.add(new int[] {promise.start(1), promise.end(1)});
        }
        return parts;
    }

    /** Of each sentence something is quoted. */
    private static void sentences(boolean[] quoted) {
        int many = 0;
        for (int[] part : parts()) {
            Matcher sentence = Pattern.compile(".+?(?:\\.(?= |$)|$)").matcher(DOC.substring(part[0], part[1]));
            while (sentence.find()) {
                String words = sentence.group();
                if (words.matches("[ =.\\d]*")) {
                    continue;
                }
                many++;
                boolean isQuoted = any(quoted, part[0] + sentence.start(), part[0] + sentence.end());
                CHECK.due(1, "a sentence is quoted:" + words, isQuoted, true);
            }
        }
        CHECK.due(1, "sentences that were found", many > 130, true);
    }

    /** Each range, each limit and each case without is quoted whole. */
    private static void numbers(boolean[] quoted) {
        Pattern edge = Pattern.compile("\\d[\\d,]* to \\d[\\d,]*\\b|at most \\w+|\\d+ without|none such|below \\d+|above \\d+");
        int many = 0;
        for (int[] part : parts()) {
            Matcher m = edge.matcher(DOC.substring(part[0], part[1]));
            while (m.find()) {
                many++;
                boolean isQuoted = all(quoted, part[0] + m.start(), part[0] + m.end());
                CHECK.due(1, "an edge is quoted: " + m.group() + ", at " + (part[0] + m.start()), isQuoted, true);
            }
        }
        CHECK.due(1, "edges that were found", many > 50, true);
    }
}
