/** Edges of PATCHES, MACHINES, MIRRORED, WINDOWS, SEAMS, BALLS and of PLANS that are made: promises 45 to 61. */
public final class PictureEdgeTest {
    private static final Edges EDGES = new Edges();
    private static final String[] ALL_APART = {"abababab", "babababa", "abababab", "babababa", "abababab", "babababa"};
    private static final String[] ALL_ONE = {"aaaaaaaa", "aaaaaaaa", "aaaaaaaa", "aaaaaaaa", "aaaaaaaa", "aaaaaaaa"};

    public static void main(String[] args) {
        patches();
        patchesRound();
        patchesInRows();
        patchOf();
        machine();
        lessened();
        behind();
        thickest();
        mirrored();
        mirrorLeast();
        lasts();
        lastsRange();
        window();
        windowEdges();
        seam();
        matched();
        buy();
        runsOut();
        plain();
        plainWays();
        fillBelowTwoEnds();
        fillLatest();
        fillStays();
        tidyByMore();
        tidyMost();
        tidyFirst();
        EDGES.end("PictureEdgeTest");
    }

    /** ROWS of the COLOURS a to e; a STITCH of a takes 2, any other one 3. */
    private static FewEnds rows(String behind, String... rows) {
        StringBuilder text = new StringBuilder("size " + rows[0].length() + " " + rows.length + ";");
        for (int k = 0; k < 5; k++) {
            text.append("colour ").append((char) ('a' + k)).append(" shows 1 yarn ").append(k == 0 ? 2 : 3).append(";");
        }
        for (String row : rows) {
            text.append("row ").append(String.join(" ", row.split(""))).append(";");
        }
        return Check.knitted(text + behind);
    }

    // ---- PATCHES

    private static void patches() {
        EDGES.says(45, "How many PATCHES there are, of a COLOUR, or of all (NONE) (1).");
        FewEnds empty = new FewEnds();
        EDGES.good(empty, "patches(NONE) without STITCHES", empty.patches(-1), 0);
        EDGES.none(empty, "patches(0) without COLOURS", empty.patches(0), 1);
        FewEnds x = rows("", "aabb", "ccab");
        EDGES.row(x, "patches", x::patches, 2, 1, 1, 0, 0);
        EDGES.good(x, "patches(NONE)", x.patches(-1), 4);
        EDGES.none(x, "patches(5)", x.patches(5), 1);
        EDGES.none(x, "patches(-2)", x.patches(-2), 1);
        FewEnds one = rows("", ALL_ONE);
        EDGES.good(one, "patches(NONE) of 48 in one", one.patches(-1), 1);
        EDGES.good(one, "patch(47, 0) of 48 in one", one.patch(47, 0), 48);
        FewEnds most = rows("", ALL_APART);
        EDGES.row(most, "patches of 48 apart", most::patches, 24, 24);
        EDGES.good(most, "patch(47, 0) of 48 apart", most.patch(47, 0), 1);
        EDGES.good(most, "patch(47, 1) of 48 apart", most.patch(47, 1), 47);
    }

    private static void patchesRound() {
        EDGES.says(45, "two STITCHES of one COLOUR side by side in a ROW (round, also at its first and its last place)");
        for (int width = 3; width <= 8; width++) {
            String row = "a" + "b".repeat(width - 2) + "a";
            FewEnds there = rows("", row);
            EDGES.row(there, "patches of " + row, there::patches, 2, 1);
            FewEnds round = rows("round;", row);
            EDGES.row(round, "patches of " + row + ", round", round::patches, 1, 1);
            EDGES.good(round, "patch(last, 1)", round.patch(width - 1, 1), 0);
            EDGES.good(round, "patch(0, 0)", round.patch(0, 0), 2);
        }
        FewEnds last = rows("round;", "bbb", "bab", "aba");
        EDGES.row(last, "patches of three ROWS, round", last::patches, 2, 2);
        FewEnds alone = rows("round;", "a");
        EDGES.good(alone, "patches(NONE) of one STITCH, round", alone.patches(-1), 1);
        EDGES.good(alone, "patch(0, 0) of one STITCH, round", alone.patch(0, 0), 1);
        FewEnds two = rows("round;", "ab");
        EDGES.good(two, "patches(NONE) of two, round", two.patches(-1), 2);
        // A ROW's last place and the next one's first are NEXT, not side by side.
        FewEnds next = rows("round;", "ab", "ba");
        EDGES.good(next, "lawful(1, 2)", next.lawful(1, 2), 1);
        EDGES.good(next, "patches(NONE) of ab, ba, round", next.patches(-1), 4);
    }

    private static void patchesInRows() {
        EDGES.says(45, "or at one place in ROWS one behind the other, hang together");
        for (String how : new String[] {"", "round;"}) {
            FewEnds x = rows(how, "a", "a", "b", "a", "a", "a");
            EDGES.row(x, "patches of one place", x::patches, 2, 1);
            EDGES.good(x, "patch(5, 1)", x.patch(5, 1), 3);
            FewEnds ends = rows(how, "a", "b", "a");
            EDGES.good(ends, "patches(NONE): the last ROW is not ahead of the first", ends.patches(-1), 3);
            FewEnds corners = rows(how, "abc", "cab", "bca");
            EDGES.good(corners, "patches(NONE) of corners", corners.patches(-1), 9);
            // The STITCHES of one place have numbers far apart, there and back.
            FewEnds far = rows(how, "abcdedca", "abcbdcba");
            EDGES.good(far, "patch(0, 0)", far.patch(0, 0), how.isEmpty() ? 2 : 4);
            EDGES.good(far, "patch(7, 0)", far.patch(7, 0), how.isEmpty() ? 2 : 4);
            EDGES.good(far, "patch(7, 1)", far.patch(7, 1), how.isEmpty() ? 7 : 0);
        }
        EDGES.says(46, "and so do all that hang together with one");
        FewEnds winding = rows("", "aaaaaaaa", "bbbbbbba", "aaaaaaaa", "abbbbbbb", "aaaaaaaa", "bbbbbbba");
        EDGES.row(winding, "patches of a winding one", winding::patches, 1, 3);
        EDGES.good(winding, "patch(40, 0): its last one", winding.patch(40, 0), 27);
        EDGES.good(winding, "patch(40, 1): its last one", winding.patch(40, 1), 0);
        EDGES.good(winding, "patch(40, 2): its last one", winding.patch(40, 2), 6);
        EDGES.good(winding, "patch(0, 0): its first one", winding.patch(0, 0), 27);
        FewEnds comb = rows("", "abababab", "abababab", "aaaaaaaa");
        EDGES.row(comb, "patches of a comb", comb::patches, 1, 4);
        EDGES.good(comb, "patch(6, 1): its last tooth", comb.patch(6, 1), 0);
    }

    private static void patchOf() {
        EDGES.says(46, "Of the PATCH of a STITCH, what 0: how many STITCHES, 1: its least STITCH, "
            + "2: in how many ROWS it is (1).");
        FewEnds x = rows("", "aab", "bab", "bbb");
        // 0 a, 1 a, 2 b; 3 b, 4 a, 5 b; 6 b, 7 b, 8 b.
        EDGES.row(x, "patch(0, ..)", what -> x.patch(0, what), 3, 0, 2);
        EDGES.row(x, "patch(4, ..)", what -> x.patch(4, what), 3, 0, 2);
        EDGES.row(x, "patch(8, ..)", what -> x.patch(8, what), 6, 2, 3);
        EDGES.row(x, "patch(5, ..)", what -> x.patch(5, what), 6, 2, 3);
        FewEnds one = rows("", "ab");
        EDGES.row(one, "patch(0, ..) of one", what -> one.patch(0, what), 1, 0, 1);
        EDGES.row(one, "patch(1, ..) of one", what -> one.patch(1, what), 1, 1, 1);
        EDGES.none(x, "patch(9, 0)", x.patch(9, 0), 1);
        EDGES.none(x, "patch(-1, 0)", x.patch(-1, 0), 1);
        EDGES.none(x, "patch(0, 3)", x.patch(0, 3), 1);
        EDGES.none(x, "patch(0, -1)", x.patch(0, -1), 1);
    }

    // ---- MACHINES

    private static void machine() {
        EDGES.says(47, "MACHINE: a ROW with at most n COLOURS goes on it");
        FewEnds three = rows("", "abcab");
        EDGES.good(three, "machine(2) of a ROW with three", three.machine(2), 1);
        EDGES.good(three, "machine(3) of a ROW with three", three.machine(3), 0);
        EDGES.good(three, "machine(4) of a ROW with three", three.machine(4), 0);
        EDGES.says(47, "How many ROWS do not go on a MACHINE for n COLOURS (1 to 5) (1).");
        FewEnds x = rows("", "aaaaa", "aabaa", "cabaa", "dabca", "edcba", "eeeee");
        int[] due = {4, 3, 2, 1, 0};
        for (int n = 1; n <= 5; n++) {
            EDGES.good(x, "machine(" + n + ")", x.machine(n), due[n - 1]);
        }
        FewEnds empty = new FewEnds();
        for (int n : new int[] {Integer.MIN_VALUE, -1, 0, 6, Integer.MAX_VALUE}) {
            EDGES.none(x, "machine(" + n + ")", x.machine(n), 1);
            EDGES.none(empty, "machine(" + n + ") without ROWS", empty.machine(n), 1);
        }
        EDGES.good(empty, "machine(1) without ROWS", empty.machine(1), 0);
        EDGES.good(empty, "machine(5) without ROWS", empty.machine(5), 0);
        FewEnds narrow = rows("", "ab", "aa", "aa", "aa", "bb", "ab");
        EDGES.good(narrow, "machine(1): the first ROW and the last", narrow.machine(1), 2);
        FewEnds all = rows("", ALL_APART);
        EDGES.good(all, "machine(1): none goes", all.machine(1), 6);
        EDGES.good(all, "machine(2): all go", all.machine(2), 0);
    }

    private static void lessened() {
        EDGES.says(48, "LESSENED: the fewest STITCHES of a ROW that must have another COLOUR so that it does.");
        FewEnds x = rows("", "aabbcdea", "edcbaaaa", "bbbbbbbb");
        long[][] due = {{5, 3, 2, 1, 0}, {4, 3, 2, 1, 0}, {0, 0, 0, 0, 0}};
        for (int row = 0; row < 3; row++) {
            for (int n = 1; n <= 5; n++) {
                EDGES.good(x, "lessened(" + row + ", " + n + ")", x.lessened(row, n), due[row][n - 1]);
            }
        }
        FewEnds last = rows("", "aeeeddbb");
        EDGES.good(last, "lessened(0, 1): the last COLOUR stays", last.lessened(0, 1), 5);
        EDGES.good(last, "lessened(0, 2)", last.lessened(0, 2), 3);
        EDGES.good(last, "lessened(0, 3)", last.lessened(0, 3), 1);
        EDGES.says(48, "LESSENED to n COLOURS (1 to 5) (1).");
        EDGES.none(x, "lessened(0, 0)", x.lessened(0, 0), 1);
        EDGES.none(x, "lessened(0, 6)", x.lessened(0, 6), 1);
        EDGES.none(x, "lessened(3, 1)", x.lessened(3, 1), 1);
        EDGES.none(x, "lessened(-1, 1)", x.lessened(-1, 1), 1);
    }

    // ---- BEHIND

    private static void behind() {
        EDGES.says(49, "BEHIND a STITCH are LINKS of the PLAN that are CARRIED or TWISTED from one ahead of it to one behind it");
        FewEnds x = rows("carry 1 cost 0;twist 1;", "abacabaa");
        EDGES.row(x, "behind without LINKS", x::behind, 0, 0, 0, 0, 0, 0, 0, 0);
        Check.link(x, 0, 2);
        EDGES.row(x, "behind one that is CARRIED", x::behind, 0, 1, 0, 0, 0, 0, 0, 0);
        Check.link(x, 1, 5);
        EDGES.row(x, "behind one more, TWISTED", x::behind, 0, 1, 1, 1, 1, 0, 0, 0);
        Check.link(x, 2, 7);
        EDGES.row(x, "behind one more", x::behind, 0, 1, 1, 2, 2, 1, 1, 0);
        EDGES.good(x, "thickest()", x.thickest(), 2);
        FewEnds y = rows("wait 7 cost 1;", "abb", "bba");
        Check.link(y, 0, 3, 1, 2, 2, 4);
        EDGES.row(y, "behind those that WAIT and NEXT", y::behind, 0, 0, 0, 0, 0, 0);
        EDGES.good(y, "thickest() of those that WAIT", y.thickest(), 0);
        FewEnds round = rows("round;carry 47 cost 0;", "abbbbbbb", "bbbbbbbb", "bbbbbbbb", "bbbbbbbb", "bbbbbbbb", "bbbbbbba");
        Check.link(round, 0, 47);
        EDGES.says(49, "How many LINKS are BEHIND a STITCH (1).");
        EDGES.good(round, "behind(0): it begins there", round.behind(0), 0);
        EDGES.good(round, "behind(1), round", round.behind(1), 1);
        EDGES.good(round, "behind(46), round", round.behind(46), 1);
        EDGES.good(round, "behind(47): it ends there", round.behind(47), 0);
        EDGES.none(round, "behind(48)", round.behind(48), 1);
        EDGES.none(round, "behind(-1)", round.behind(-1), 1);
    }

    private static void thickest() {
        EDGES.says(50, "THICKEST (0 without STITCHES).");
        FewEnds empty = new FewEnds();
        EDGES.good(empty, "thickest()", empty.thickest(), 0);
        EDGES.says(50, "THICKEST: the most behind one.");
        FewEnds one = rows("", "a");
        EDGES.good(one, "thickest() of one STITCH", one.thickest(), 0);
        FewEnds x = rows("", "abcdabcd");
        Check.link(x, 0, 4);
        EDGES.good(x, "thickest() of one LINK", x.thickest(), 1);
        Check.link(x, 1, 5, 2, 6, 3, 7);
        EDGES.good(x, "thickest() of four", x.thickest(), 3);
        EDGES.row(x, "behind", x::behind, 0, 1, 2, 3, 3, 2, 1, 0);
    }

    // ---- MIRRORED

    private static void mirrored() {
        EDGES.says(51, "of each ROW STITCHES at the right are made like those at the left as far from the edge "
            + "(the middle one stays): how many become other ones");
        FewEnds empty = new FewEnds();
        EDGES.good(empty, "mirrored() without STITCHES", empty.mirrored(), 0);
        FewEnds most = rows("", "aaaabbbb", "aaaabbbb", "aaaabbbb", "aaaabbbb", "aaaabbbb", "aaaabbbb");
        EDGES.good(most, "mirrored() of 48", most.mirrored(), 24);
        String[] all = {"a", "aa", "ab", "aba", "abc", "abba", "abab", "abcde", "abcba", "abcdabcd", "abcddcba",
            "abcdeabc", "aabbbbac"};
        int[] due = {0, 0, 1, 0, 1, 0, 2, 2, 0, 4, 0, 3, 1};
        for (int k = 0; k < all.length; k++) {
            FewEnds x = rows("", all[k]);
            EDGES.good(x, "mirrored() of " + all[k], x.mirrored(), due[k]);
            EDGES.good(x, "stitch(last, 0) of " + all[k], x.stitch(all[k].length() - 1, 0),
                all[k].charAt(all[k].length() - 1) - 'a');
        }
        EDGES.says(51, "MIRRORED: how many STITCHES become other ones.");
        FewEnds x = rows("", "abc", "cba", "aaa", "abb", "bba", "cac");
        EDGES.good(x, "mirrored() of six ROWS", x.mirrored(), 4);
        EDGES.good(x, "mirrored() again: nothing is changed", x.mirrored(), 4);
    }

    private static void mirrorLeast() {
        EDGES.says(52, "LEAST of all, MIRRORED.");
        FewEnds empty = new FewEnds();
        EDGES.good(empty, "mirrorLeast() without STITCHES", empty.mirrorLeast(), 0);
        FewEnds one = rows("", "b");
        EDGES.good(one, "mirrorLeast() of one STITCH", one.mirrorLeast(), 20);
        FewEnds x = rows("carry 0 cost 0;", "abcd");
        EDGES.good(x, "mirrorLeast() of abba", x.mirrorLeast(), 60);
        EDGES.good(x, "least(NONE) then", x.least(-1), 80);
        EDGES.says(52, "how many become other ones; LEAST of all then.");
        FewEnds odd = rows("carry 0 cost 0;", "abc");
        EDGES.good(odd, "mirrorLeast() of aba", odd.mirrorLeast(), 60);
        // abba there and abba back: at the turn a is NEXT to a, the first a WAITS for the last, and b for b.
        FewEnds there = rows("carry 0 cost 0;wait 0 cost 7;", "abcd", "abcd");
        EDGES.good(there, "mirrorLeast() of abba, abba", there.mirrorLeast(), 20 + 20 + 7 + 20 + 7);
        FewEnds round = rows("carry 0 cost 0;round;", "abcd", "abcd");
        EDGES.good(round, "mirrorLeast() of abba, abba, round", round.mirrorLeast(), 5 * 20);
    }

    // ---- LASTS

    private static void lasts() {
        EDGES.says(53, "each of its STITCHES, in order, takes its own and that of the LINK of the PLAN that comes to it: "
            + "the first for which what is left is not enough");
        FewEnds x = rows("strand 5;", "baba", "bbbb");
        // a: 1 and 3 take 2 each; b: 0, 2, 4, 5, 6, 7 take 3 each.
        int[] yarn = {0, 1, 2, 3};
        int[] due = {1, 1, 3, 3};
        for (int k = 0; k < yarn.length; k++) {
            EDGES.good(x, "lasts(0, " + yarn[k] + ")", x.lasts(0, yarn[k]), due[k]);
        }
        EDGES.none(x, "lasts(0, 4): just enough", x.lasts(0, 4), 6);
        Check.link(x, 1, 3);
        EDGES.good(x, "lasts(0, 2) with a LINK of 5", x.lasts(0, 2), 3);
        EDGES.good(x, "lasts(0, 8) with a LINK of 5", x.lasts(0, 8), 3);
        EDGES.none(x, "lasts(0, 9): just enough with a LINK of 5", x.lasts(0, 9), 6);
        EDGES.good(x, "lasts(1, 17)", x.lasts(1, 17), 7);
        EDGES.none(x, "lasts(1, 18): just enough", x.lasts(1, 18), 6);
        // 2 goes to 4 by a LINK that WAITS from its place 2 to 3: 5 more.
        Check.link(x, 2, 4);
        EDGES.good(x, "lasts(1, 13) with one that WAITS", x.lasts(1, 13), 4);
        EDGES.good(x, "lasts(1, 14) with one that WAITS", x.lasts(1, 14), 5);
    }

    private static void lastsRange() {
        EDGES.says(53, "LASTS, so much YARN (0 to 9,999): the STITCH (1; 6: it is enough).");
        FewEnds x = rows("", "ab");
        EDGES.none(x, "lasts(0, -1)", x.lasts(0, -1), 1);
        EDGES.good(x, "lasts(0, 0)", x.lasts(0, 0), 0);
        EDGES.none(x, "lasts(0, 9999)", x.lasts(0, 9999), 6);
        EDGES.none(x, "lasts(0, 10000)", x.lasts(0, 10000), 1);
        EDGES.none(x, "lasts(2, 0): no STITCHES", x.lasts(2, 0), 6);
        EDGES.none(x, "lasts(5, 0)", x.lasts(5, 0), 1);
        EDGES.none(x, "lasts(-1, 0)", x.lasts(-1, 0), 1);
        FewEnds y = dear();
        EDGES.good(y, "lasts(0, 9206)", y.lasts(0, 9206), 46);
        EDGES.good(y, "lasts(0, 9207)", y.lasts(0, 9207), 47);
        EDGES.good(y, "lasts(0, 9999) is not enough", y.lasts(0, 9999), 47);
    }

    /** Of COLOUR a three THREADS of 4,554 each, over 44 STITCHES of b. */
    private static FewEnds dear() {
        FewEnds x = Check.knitted("size 8 6;colour a shows 0 yarn 99;colour b shows 0 yarn 99;row a a a b b b b b;"
            + "row b b b b b b b b;".repeat(4) + "row b b b b b a a a;round;carry 47 cost 0;strand 99;");
        Check.link(x, 0, 45, 1, 46, 2, 47);
        return x;
    }

    // ---- WINDOWS

    private static void window() {
        EDGES.says(54, "as a CHART of their own (its first ROW is ROW 0): LEAST of all then");
        FewEnds x = rows("carry 0 cost 0;wait 0 cost 1;", "ddd", "abc", "bdc");
        // abc from the left, then from the right cdb: c is NEXT to c, and nothing else goes on.
        EDGES.good(x, "window(0, 2, 1, 2)", x.window(0, 2, 1, 2), 100);
        // bc from the left, then from the right cd.
        EDGES.good(x, "window(1, 2, 1, 2)", x.window(1, 2, 1, 2), 20 + 20 + 20);
        EDGES.good(x, "window(2, 2, 1, 2)", x.window(2, 2, 1, 2), 20);
        EDGES.good(x, "least(NONE) then", x.least(-1), 40 + 20 + 40 + 21);
        EDGES.good(x, "told(0) then", x.told(0), 3);
        EDGES.good(x, "stitch(8, 0) then", x.stitch(8, 0), 2);
        FewEnds round = rows("round;carry 1 cost 1;end 5;", "dd", "ab", "ab");
        EDGES.good(round, "window(0, 1, 1, 2), round", round.window(0, 1, 1, 2), 10 + 1 + 10 + 1);
        EDGES.good(round, "window(1, 1, 0, 2), round", round.window(1, 1, 0, 2), 20);
        // WAIT goes by places of the WINDOW, which are as far apart as in the CHART.
        FewEnds far = rows("carry 0 cost 0;wait 1 cost 1;", "bbab", "bbba");
        EDGES.good(far, "window(2, 3, 0, 1)", far.window(2, 3, 0, 1), 20 + 1 + 20 + 1);
    }

    private static void windowEdges() {
        EDGES.says(54, "LEAST of all in a WINDOW (1: the right end ahead of the left one, the last ROW ahead of the first, too).");
        String[] all = {"aaaaaaaa", "aabbbbba", "aaaaaaaa", "aaaaaaaa", "aaaaaaaa", "aaaaaaab"};
        FewEnds x = rows("", all);
        EDGES.good(x, "window() of all", x.window(0, 7, 0, 5), x.least(-1));
        EDGES.good(x, "window() of the first STITCH", x.window(0, 0, 0, 0), 20);
        EDGES.good(x, "window() of the last place", x.window(7, 7, 5, 5), 20);
        EDGES.good(x, "window() of the last ROW", x.window(0, 7, 5, 5), 40);
        EDGES.good(x, "window() of the last places", x.window(7, 7, 0, 5), 40);
        EDGES.good(x, "window() of the first places", x.window(0, 0, 0, 5), 20);
        int[][] wrong = {{-1, 0, 0, 0}, {0, 8, 0, 0}, {8, 8, 0, 0}, {1, 0, 0, 0}, {7, 6, 0, 5}, {0, -1, 0, 0},
            {0, 0, -1, 0}, {0, 0, 0, 6}, {0, 0, 6, 6}, {0, 0, 1, 0}, {0, 7, 5, 4}, {0, 0, 0, -1},
            {Integer.MIN_VALUE, 0, 0, 0}, {0, Integer.MAX_VALUE, 0, 0}, {0, 0, Integer.MIN_VALUE, 0},
            {0, 0, 0, Integer.MAX_VALUE}, {Integer.MAX_VALUE, Integer.MIN_VALUE, 0, 0}};
        for (int[] w : wrong) {
            EDGES.none(x, "window" + java.util.Arrays.toString(w), x.window(w[0], w[1], w[2], w[3]), 1);
        }
        FewEnds empty = new FewEnds();
        EDGES.none(empty, "window() without STITCHES", empty.window(0, 0, 0, 0), 1);
    }

    // ---- SEAMS

    private static void seam() {
        EDGES.says(55, "SEAM: by an offset (0 to the height less 1): how many ROWS have at their right the COLOUR that "
            + "the ROW so many behind it (round on from the last to the first) has at its left.");
        // At the right b, c, a; at the left a, b, c.
        FewEnds x = rows("", "aeb", "bec", "cea");
        EDGES.row(x, "seam", x::seam, 0, 3, 0);
        EDGES.says(55, "SEAM by an offset (1).");
        EDGES.none(x, "seam(3)", x.seam(3), 1);
        EDGES.none(x, "seam(-1)", x.seam(-1), 1);
        // The last ROW alone has a mate, the first one.
        FewEnds last = rows("", "bc", "bd", "be", "bb");
        EDGES.row(last, "seam of the last ROW's", last::seam, 1, 1, 1, 1);
        FewEnds on = rows("", "bc", "de", "de", "db");
        EDGES.row(on, "seam: round on to the first", on::seam, 0, 1, 0, 0);
        FewEnds one = rows("", "a");
        EDGES.row(one, "seam of one STITCH", one::seam, 1);
        EDGES.none(one, "seam(1) of one ROW", one.seam(1), 1);
        FewEnds most = rows("round;", ALL_ONE);
        EDGES.row(most, "seam of 48 in one", most::seam, 6, 6, 6, 6, 6, 6);
        EDGES.none(most, "seam(6)", most.seam(6), 1);
        FewEnds empty = new FewEnds();
        EDGES.none(empty, "seam(0) without ROWS", empty.seam(0), 1);
    }

    private static void matched() {
        EDGES.says(56, "MATCHED: the offset with the most; the first.");
        EDGES.good(rows("", "a"), "matched() of one STITCH", rows("", "a").matched(), 0);
        FewEnds x = rows("", "aeb", "bec", "cea");
        EDGES.good(x, "matched()", x.matched(), 1);
        FewEnds last = rows("", "ac", "ba", "cb");
        EDGES.row(last, "seam", last::seam, 0, 0, 3);
        EDGES.good(last, "matched(): the last offset", last.matched(), 2);
        FewEnds far = Check.knitted("size 2 6;colour a shows 1 yarn 1;colour b shows 1 yarn 1;row b a;"
            + "row a b;".repeat(5));
        EDGES.row(far, "seam of six ROWS", far::seam, 0, 2, 2, 2, 2, 2);
        EDGES.good(far, "matched(): the first of five", far.matched(), 1);
        FewEnds furthest = rows("", "ae", "ba", "cb", "dc", "ed", "ee");
        EDGES.row(furthest, "seam of six others", furthest::seam, 1, 0, 0, 0, 1, 6);
        EDGES.good(furthest, "matched(): the last of six", furthest.matched(), 5);
        FewEnds all = rows("", ALL_ONE);
        EDGES.good(all, "matched(): the first of six", all.matched(), 0);
        FewEnds none = rows("", "ab", "ab");
        EDGES.good(none, "matched(): the first of two that match nothing", none.matched(), 0);
        EDGES.says(56, "MATCHED (6: no ROWS).");
        FewEnds empty = new FewEnds();
        EDGES.none(empty, "matched()", empty.matched(), 6);
    }

    // ---- BALLS

    private static void buy() {
        EDGES.says(57, "BALLS of a COLOUR to be bought, so much YARN each (1 to 9,999): YARN of the PLAN by that, rounded up.");
        FewEnds x = rows("strand 1;", "abba");
        // a takes 4, with the LINK over b b 6.
        int[] yarn = {1, 2, 3, 4, 5, 9999};
        int[] alone = {4, 2, 2, 1, 1, 1};
        int[] linked = {6, 3, 2, 2, 2, 1};
        for (int k = 0; k < yarn.length; k++) {
            EDGES.good(x, "buy(0, " + yarn[k] + ")", x.buy(0, yarn[k]), alone[k]);
        }
        Check.link(x, 0, 3);
        for (int k = 0; k < yarn.length; k++) {
            EDGES.good(x, "buy(0, " + yarn[k] + ") with a LINK", x.buy(0, yarn[k]), linked[k]);
        }
        EDGES.says(57, "BALLS of a COLOUR to be bought (1).");
        for (int n : new int[] {Integer.MIN_VALUE, -1, 0, 10000, Integer.MAX_VALUE}) {
            EDGES.none(x, "buy(0, " + n + ")", x.buy(0, n), 1);
        }
        EDGES.good(x, "buy(2, 1): no STITCHES", x.buy(2, 1), 0);
        EDGES.none(x, "buy(5, 1)", x.buy(5, 1), 1);
        EDGES.none(x, "buy(-1, 1)", x.buy(-1, 1), 1);
        FewEnds dear = dear();
        EDGES.good(dear, "buy(0, 9999) of 13,662", dear.buy(0, 9999), 2);
        EDGES.good(dear, "buy(0, 6831) of 13,662", dear.buy(0, 6831), 2);
        EDGES.good(dear, "buy(0, 6830) of 13,662", dear.buy(0, 6830), 3);
        EDGES.good(dear, "buy(0, 1) of 13,662", dear.buy(0, 1), 13662);
    }

    private static void runsOut() {
        EDGES.says(58, "each THREAD of the PLAN takes as many BALLS as its YARN (its STITCHES, its LINKS) by that, rounded up: "
            + "COST of the PLAN and two END for each ball more than one of a THREAD.");
        FewEnds empty = new FewEnds();
        EDGES.good(empty, "runsOut(1) without STITCHES", empty.runsOut(1), 0);
        FewEnds x = rows("end 3;balls 1 cost 7;", "aaa");
        EDGES.good(x, "runsOut(2): just enough", x.runsOut(2), 18 + 14);
        EDGES.good(x, "runsOut(1): a ball more each", x.runsOut(1), 18 + 14 + 18);
        Check.link(x, 0, 2);
        // A THREAD of 2 + 2 + 1 and one of 2.
        EDGES.good(x, "runsOut(5): just enough", x.runsOut(5), 12 + 7);
        EDGES.good(x, "runsOut(4): one ball more", x.runsOut(4), 12 + 7 + 6);
        EDGES.good(x, "runsOut(3): one ball more", x.runsOut(3), 12 + 7 + 6);
        EDGES.good(x, "runsOut(2): two balls more", x.runsOut(2), 12 + 7 + 12);
        EDGES.good(x, "runsOut(1)", x.runsOut(1), 12 + 7 + 24 + 6);
        EDGES.good(x, "runsOut(9999)", x.runsOut(9999), 12 + 7);
        EDGES.says(58, "RUNS OUT (1).");
        for (int n : new int[] {Integer.MIN_VALUE, -1, 0, 10000, Integer.MAX_VALUE}) {
            EDGES.none(x, "runsOut(" + n + ")", x.runsOut(n), 1);
            EDGES.none(empty, "runsOut(" + n + ") without STITCHES", empty.runsOut(n), 1);
        }
        FewEnds dear = dear();
        EDGES.good(dear, "runsOut(4554)", dear.runsOut(4554), dear.planCost());
        EDGES.good(dear, "runsOut(4553)", dear.runsOut(4553), dear.planCost() + 3 * 20);
    }

    // ---- PLANS that are made

    private static void plain() {
        EDGES.says(59, "PLAIN: no LINKS at first; then, STITCH by STITCH, one goes on to the first later one");
        FewEnds empty = new FewEnds();
        EDGES.good(empty, "plain() without STITCHES", empty.plain(), 0);
        FewEnds one = rows("", "a");
        EDGES.good(one, "plain() of one STITCH", one.plain(), 20);
        EDGES.links(one, -1);
        FewEnds x = rows("", "aaba");
        Check.link(x, 0, 3);
        EDGES.says(59, "The PLAN is PLAIN: its COST.");
        EDGES.good(x, "plain()", x.plain(), 40);
        EDGES.links(x, 1, 3, -1, -1);
        FewEnds most = rows("", ALL_ONE);
        EDGES.good(most, "plain() of 48", most.plain(), 20);
        EDGES.good(most, "threads(NONE) of 48", most.threads(-1), 1);
        EDGES.good(most, "comes(47) of 48", most.comes(47), 46);
        FewEnds tangled = rows("balls 1 cost 7;", "ab");
        EDGES.good(tangled, "plain() with a TANGLE", tangled.plain(), 47);
    }

    private static void plainWays() {
        EDGES.says(59, "that can be NEXT or CARRIED from it and to which none comes yet, if there is one");
        FewEnds twisted = rows("carry 1 cost 9;twist 1;end 1;", "abacca");
        // 0 to 2 is CARRIED, however dear; 2 to 5 would be TWISTED.
        EDGES.good(twisted, "plain() of abacca", twisted.plain(), 9 + 4 * 2);
        EDGES.links(twisted, 2, -1, -1, 4, -1, -1);
        FewEnds waits = rows("wait 7 cost 0;carry 47 cost 0;", "ab", "ab");
        waits.plain();
        EDGES.links(waits, -1, 2, -1, -1);
        FewEnds round = rows("wait 7 cost 0;carry 47 cost 0;round;", "ab", "ab");
        round.plain();
        EDGES.links(round, 2, 3, -1, -1);
        FewEnds far = rows("round;carry 46 cost 0;", "abbbbbbb", "bbbbbbbb", "bbbbbbbb", "bbbbbbbb", "bbbbbbbb", "bbbbbbba");
        far.plain();
        EDGES.good(far, "goes(0) all round", far.goes(0), 47);
        FewEnds further = rows("round;carry 45 cost 0;", "abbbbbbb", "bbbbbbbb", "bbbbbbbb", "bbbbbbbb", "bbbbbbbb",
            "bbbbbbba");
        further.plain();
        EDGES.none(further, "goes(0) all round, too far", further.goes(0), 6);
    }

    private static void fillBelowTwoEnds() {
        EDGES.says(60, "and from which it costs least, if that is less than two END");
        int[] due = {1, 0, 0};
        for (int cost = 3; cost <= 5; cost++) {
            FewEnds x = rows("end 2;carry 1 cost " + cost + ";", "aba");
            EDGES.good(x, "fill() at " + cost + ", two END 4", x.fill(), due[cost - 3]);
            EDGES.links(x, cost == 3 ? 2 : -1, -1, -1);
        }
        FewEnds free = rows("end 0;", "aa");
        EDGES.good(free, "fill(): NEXT is not less than END of 0", free.fill(), 0);
        FewEnds one = rows("end 1;", "aa");
        EDGES.good(one, "fill(): NEXT is less than END of 1", one.fill(), 1);
        FewEnds empty = new FewEnds();
        EDGES.good(empty, "fill() without STITCHES", empty.fill(), 0);
        FewEnds cheap = rows("carry 3 cost 4;wait 7 cost 1;end 9;", "abbb", "abab");
        // 0 a, 1 b, 2 b, 3 b; 4 b, 5 a, 6 b, 7 a: 6 could WAIT for 3, which has gone on, or come from 4 at 4.
        EDGES.good(cheap, "fill(): the cheapest", cheap.fill(), 6);
        EDGES.links(cheap, 5, 2, 3, 4, 6, 7, -1, -1);
    }

    private static void fillLatest() {
        EDGES.says(60, "if that is less than two END; of several the latest");
        FewEnds x = rows("carry 0 cost 0;wait 3 cost 3;", "abacab", "bbbabb");
        // 0 a, 2 a, 4 a; ROW 1 from the right: 6 b, 7 b, 8 a, 9 b, 10 b, 11 b; 8 is at place 3.
        EDGES.good(x, "fill()", x.fill(), 6);
        EDGES.good(x, "comes(8): 0, 2 and 4 cost the same", x.comes(8), 4);
        EDGES.says(60, "that earlier one from which none goes yet");
        FewEnds y = rows("carry 0 cost 0;wait 3 cost 3;", "abacab", "bbaacc");
        // ROW 1 from the right: 6 c, 7 c, 8 a, 9 a: 8 gets 4's, 9 is NEXT to 8.
        EDGES.good(y, "fill() of two a's", y.fill() > 0);
        EDGES.good(y, "comes(8)", y.comes(8), 4);
        EDGES.good(y, "comes(9)", y.comes(9), 8);
        FewEnds z = rows("carry 0 cost 0;wait 5 cost 3;", "abacac", "abacab");
        // ROW 1 from the right: 6 b, 7 a at 4, 8 c, 9 a at 2, 10 b, 11 a at 0.
        z.fill();
        EDGES.good(z, "comes(7): the latest", z.comes(7), 4);
        EDGES.good(z, "comes(9): the latest of those left", z.comes(9), 2);
        EDGES.good(z, "comes(11): the last that is left", z.comes(11), 0);
    }

    private static void fillStays() {
        EDGES.says(60, "FILLED: LINKS of the PLAN stay");
        FewEnds x = rows("", "aaaa");
        Check.link(x, 0, 3);
        x.fill();
        EDGES.links(x, 3, 2, -1, -1);
        EDGES.says(60, "The PLAN is FILLED: how many LINKS came.");
        EDGES.good(x, "fill() again", x.fill(), 0);
        x.unlink(1);
        EDGES.good(x, "fill() of one", x.fill(), 1);
        EDGES.links(x, 3, 2, -1, -1);
        x.clear();
        EDGES.good(x, "fill() of none", x.fill(), 3);
        EDGES.links(x, 1, 2, 3, -1);
        FewEnds most = rows("", ALL_ONE);
        EDGES.good(most, "fill() of 48", most.fill(), 47);
        EDGES.good(most, "fill() of 48 again", most.fill(), 0);
        EDGES.good(most, "threads(NONE) of 48", most.threads(-1), 1);
    }

    private static void tidyByMore() {
        EDGES.says(61, "that LINK is taken away by which COST falls most (by more than 0)");
        int[] due = {0, 0, 1};
        for (int cost = 3; cost <= 5; cost++) {
            FewEnds x = rows("end 2;carry 1 cost " + cost + ";", "aba");
            Check.link(x, 0, 2);
            EDGES.good(x, "tidy() of one at " + cost + ", two END 4", x.tidy(), due[cost - 3]);
            EDGES.links(x, cost == 5 ? -1 : 2, -1, -1);
        }
        FewEnds empty = new FewEnds();
        EDGES.good(empty, "tidy() without STITCHES", empty.tidy(), 0);
        FewEnds free = rows("end 0;", "aaa");
        free.plain();
        EDGES.good(free, "tidy() of what costs nothing", free.tidy(), 0);
        EDGES.says(61, "The PLAN is TIDIED: how many LINKS went.");
        FewEnds all = rows("end 0;carry 1 cost 1;", "ababab");
        all.plain();
        EDGES.good(all, "tidy(): as long as one is there", all.tidy(), 4);
        EDGES.links(all, -1, -1, -1, -1, -1, -1);
        FewEnds most = rows("end 0;carry 1 cost 1;wait 0 cost 1;", ALL_APART);
        most.plain();
        EDGES.good(most, "tidy() of 36", most.tidy(), 36);
        EDGES.good(most, "tidy() again", most.tidy(), 0);
    }

    /** A column of a's at the left, b's else, round; a LINK costs 1 for each STITCH between, a THREAD 6. */
    private static FewEnds column(int balls, int cost) {
        return rows("round;carry 9 cost 1;end 3;balls " + balls + " cost " + cost + ";", "ab", "ab", "ab", "ab");
    }

    private static void tidyMost() {
        EDGES.says(61, "TIDIED: as long as one is there: that LINK is taken away by which COST falls most");
        FewEnds x = column(3, 5);
        Check.link(x, 0, 4, 1, 7);
        // Without 0's COST falls by 3 + 5 - 6, without 1's by 5 + 5 - 6, and then no TANGLE is left.
        EDGES.good(x, "tidy()", x.tidy(), 1);
        EDGES.links(x, 4, -1, -1, -1);
        FewEnds y = column(3, 3);
        Check.link(y, 0, 4, 1, 5);
        EDGES.good(y, "tidy(): COST would fall by 0", y.tidy(), 0);
        FewEnds z = column(3, 4);
        Check.link(z, 0, 4, 1, 5);
        EDGES.good(z, "tidy(): COST falls by 1", z.tidy(), 1);
        FewEnds both = column(2, 5);
        Check.link(both, 0, 4, 1, 7);
        EDGES.good(both, "tidy(): one behind the other", both.tidy(), 2);
    }

    private static void tidyFirst() {
        EDGES.says(61, "of several that of the first STITCH");
        FewEnds x = column(3, 5);
        Check.link(x, 1, 5, 0, 4);
        EDGES.good(x, "tidy()", x.tidy(), 1);
        EDGES.links(x, -1, 5, -1, -1);
        EDGES.good(x, "tidy() again", x.tidy(), 0);
    }
}
