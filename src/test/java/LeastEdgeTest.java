import java.util.ArrayList;
import java.util.List;

/** Edges of the least, of a ROW ALONE, of what is ALTERED and SEWN: promises 33 to 44. */
public final class LeastEdgeTest {
    private static final Edges EDGES = new Edges();
    private static final String[] ALL_APART = {"abababab", "babababa", "abababab", "babababa", "abababab", "babababa"};

    public static void main(String[] args) {
        leastOfFew();
        leastOfMost();
        leastOfALink();
        leastWithoutTangles();
        leastOfAll();
        leastOfCheapEnds();
        overAllPlans();
        fewest();
        gap();
        worth();
        rowAloneEnds();
        rowAloneOneEach();
        rowAloneAhead();
        rowAloneLinks();
        rowAloneRound();
        other();
        saves();
        savesMinusOne();
        savesColours();
        bestOfSeveral();
        bestOfNone();
        fewRange();
        fewUntilNothing();
        fewOneBehindTheOther();
        nothingIsChanged();
        fewAt();
        fewAtLatest();
        sewnSets();
        sewnOfSeveral();
        sewnOfNone();
        EDGES.end("LeastEdgeTest");
    }

    /** ROWS of the COLOURS a to e, of which so many are told. */
    private static FewEnds rows(int colours, String behind, String... rows) {
        StringBuilder text = new StringBuilder("size " + rows[0].length() + " " + rows.length + ";");
        for (int k = 0; k < colours; k++) {
            text.append("colour ").append((char) ('a' + k)).append(" shows ").append(k).append(" yarn 1;");
        }
        for (String row : rows) {
            text.append("row ").append(String.join(" ", row.split(""))).append(";");
        }
        return Check.knitted(text + behind);
    }

    // ---- LEAST, FEWEST, GAP

    private static void leastOfFew() {
        EDGES.says(33, "LEAST of a COLOUR: the least that ENDS and LINKS of its THREADS can cost (without TANGLES), "
            + "over all PLANS");
        FewEnds x = rows(2, "", "b");
        EDGES.row(x, "least", x::least, 0, 20);
        FewEnds free = rows(2, "end 0;carry 9 cost 9;", "abab");
        EDGES.row(free, "least, END 0", free::least, 0, 0);
        FewEnds dear = rows(2, "end 99;carry 0 cost 0;", "abab");
        EDGES.row(dear, "least, END 99", dear::least, 2 * 198, 2 * 198);
    }

    private static void leastOfMost() {
        EDGES.says(33, "the least that ENDS and LINKS of its THREADS can cost (without TANGLES), over all PLANS");
        String all = "bbbbbbbb";
        FewEnds x = rows(2, "", all, all, all, all, all, all);
        EDGES.row(x, "least of 48 NEXT to one another", x::least, 0, 20);
        FewEnds y = rows(2, "end 99;carry 0 cost 0;wait 0 cost 0;", ALL_APART);
        EDGES.row(y, "least of 48 apart", y::least, 24 * 198, 24 * 198);
        FewEnds z = rows(2, "end 99;carry 1 cost 9;wait 0 cost 0;", ALL_APART);
        EDGES.row(z, "least of 48 in 12 THREADS", z::least, 6 * 198 + 18 * 9, 6 * 198 + 18 * 9);
        FewEnds round = rows(2, "end 99;carry 47 cost 9;round;", ALL_APART);
        EDGES.good(round, "least(0) of 24, round", round.least(0), 198 + 18 * 9 + 3 * 18);
    }

    private static void leastOfALink() {
        EDGES.says(33, "the least that ENDS and LINKS of its THREADS can cost");
        int[] due = {4 + 3, 4 + 4, 4 + 4};
        for (int cost = 3; cost <= 5; cost++) {
            FewEnds x = rows(2, "end 2;carry 1 cost " + cost + ";", "aba");
            EDGES.good(x, "least(0), two END or " + cost, x.least(0), due[cost - 3]);
        }
        // Both 0 and 2 can go to 5 alone, and each STITCH has one LINK at most.
        FewEnds y = rows(2, "carry 0 cost 0;wait 1 cost 1;", "aba", "bab");
        EDGES.good(y, "least(0): one of two goes on", y.least(0), 20 + 20 + 1);
    }

    private static void leastWithoutTangles() {
        EDGES.says(33, "(without TANGLES)");
        FewEnds x = rows(2, "balls 1 cost 99;", "ab");
        EDGES.row(x, "least", x::least, 20, 20);
        EDGES.good(x, "least(NONE)", x.least(-1), 40);
    }

    private static void leastOfAll() {
        EDGES.says(33, "LEAST of a COLOUR, or of all (NONE) (1).");
        FewEnds x = rows(5, "carry 0 cost 0;", "abcdea");
        EDGES.row(x, "least", x::least, 40, 20, 20, 20, 20);
        EDGES.good(x, "least(NONE)", x.least(-1), 120);
        EDGES.none(x, "least(5)", x.least(5), 1);
        EDGES.none(x, "least(-2)", x.least(-2), 1);
        EDGES.says(33, "LEAST of all: all COLOURS' together.");
        EDGES.good(x, "least(NONE) of five COLOURS",
            x.least(-1), x.least(0) + x.least(1) + x.least(2) + x.least(3) + x.least(4));
        EDGES.good(new FewEnds(), "least(NONE) without COLOURS", new FewEnds().least(-1), 0);
        EDGES.says(34, "FEWEST THREADS of a COLOUR, or of all (NONE) (1).");
        EDGES.row(x, "fewest", x::fewest, 2, 1, 1, 1, 1);
        EDGES.good(x, "fewest(NONE)", x.fewest(-1), 6);
        EDGES.none(x, "fewest(5)", x.fewest(5), 1);
        EDGES.none(x, "fewest(-2)", x.fewest(-2), 1);
        EDGES.good(new FewEnds(), "fewest(NONE) without COLOURS", new FewEnds().fewest(-1), 0);
    }

    /** An END may cost less than there are COLOURS. */
    private static void leastOfCheapEnds() {
        EDGES.says(33, "LEAST of all: all COLOURS' together.");
        for (int end = 1; end <= 5; end++) {
            FewEnds x = rows(5, "carry 0 cost 0;alter 0;end " + end + ";", "abcdeaee");
            EDGES.good(x, "least(NONE), END " + end, x.least(-1), 7 * 2 * end);
            EDGES.good(x, "fewest(NONE), END " + end, x.fewest(-1), 7);
            best(x, "abcdeaee, END " + end, 4 * end, 5, 4);
        }
    }

    // ---- all PLANS, one by one

    /**
     * What the STITCHES from the k-th goal on cost at least, where each gets each LINK that can come to it
     * from one of the free STITCHES, or none.
     */
    private static int cheapest(FewEnds x, int[][] costs, List<Integer> goals, int k, boolean[] isFree, int alone) {
        if (k == goals.size()) {
            return 0;
        }
        int j = goals.get(k);
        int best = alone + cheapest(x, costs, goals, k + 1, isFree, alone);
        for (int i = 0; i < j; i++) {
            if (isFree[i] && costs[i][j] >= 0) {
                isFree[i] = false;
                best = Math.min(best, costs[i][j] + cheapest(x, costs, goals, k + 1, isFree, alone));
                isFree[i] = true;
            }
        }
        return best;
    }

    /** What each LINK costs, or 0 for counting; -1 where there can be none. */
    private static int[][] costs(FewEnds x, int stitches, boolean isCount) {
        int[][] costs = new int[stitches][stitches];
        for (int i = 0; i < stitches; i++) {
            for (int j = i + 1; j < stitches; j++) {
                int cost = x.cost(i, j);
                costs[i][j] = cost >= 0 && isCount ? 0 : cost;
            }
        }
        return costs;
    }

    private static void overAllPlans() {
        EDGES.says(33, "LEAST of a COLOUR: the least that ENDS and LINKS of its THREADS can cost (without TANGLES), "
            + "over all PLANS");
        long chance = 12345;
        for (int run = 0; run < 120; run++) {
            int[] n = new int[40];
            for (int k = 0; k < n.length; k++) {
                chance = chance * 6364136223846793005L + 1442695040888963407L;
                n[k] = (int) (chance >>> 40);
            }
            String[] rows = new String[2 + n[0] % 2];
            int width = 2 + n[1] % (rows.length == 2 ? 4 : 2);
            for (int row = 0; row < rows.length; row++) {
                StringBuilder names = new StringBuilder();
                for (int place = 0; place < width; place++) {
                    names.append(n[10 + row * width + place] % 3 == 0 ? 'b' : 'a');
                }
                rows[row] = names.toString();
            }
            FewEnds x = rows(2, "end " + (1 + n[2] % 5) + ";carry " + n[3] % 3 + " cost " + n[4] % 4 + ";twist "
                + n[5] % 3 + ";wait " + n[6] % 3 + " cost " + n[7] % 8 + ";" + (n[8] % 4 == 0 ? "round;" : ""), rows);
            compareAllPlans(x, String.join("/", rows), width * rows.length);
            compareRowsAlone(x, String.join("/", rows), width * rows.length, rows.length);
        }
    }

    private static void compareAllPlans(FewEnds x, String of, int stitches) {
        int[][] costs = costs(x, stitches, false);
        int[][] counts = costs(x, stitches, true);
        for (int turn = 0; turn < 2; turn++) {
            int sum = 0;
            for (int colour = 0; colour < 2; colour++) {
                List<Integer> goals = new ArrayList<>();
                boolean[] isFree = new boolean[stitches];
                for (int i = 0; i < stitches; i++) {
                    if (x.stitch(i, 0) == colour) {
                        goals.add(i);
                        isFree[i] = true;
                    }
                }
                int due = cheapest(x, costs, goals, 0, isFree, 2 * x.told(3));
                EDGES.due("least(" + colour + ") of " + of, x.least(colour), due);
                EDGES.due("fewest(" + colour + ") of " + of, x.fewest(colour),
                    cheapest(x, counts, goals, 0, isFree, 1));
                sum += due;
            }
            EDGES.due("least(NONE) of " + of, x.least(-1), sum);
        }
    }

    /** With the PLAN that fill() makes, of which some LINKS are taken away. */
    private static void compareRowsAlone(FewEnds x, String of, int stitches, int rows) {
        int[][] costs = costs(x, stitches, false);
        x.fill();
        x.unlink(stitches / 3);
        for (int row = 0; row < rows; row++) {
            List<Integer> goals = new ArrayList<>();
            boolean[] isFree = new boolean[stitches];
            for (int i = 0; i < stitches; i++) {
                int there = x.stitch(i, 2);
                int to = x.goes(i);
                isFree[i] = there == row || there == row - 1 && (to == -1 || x.stitch(to, 2) >= row);
                if (there == row) {
                    goals.add(i);
                }
            }
            EDGES.due("rowAlone(" + row + ") of " + of, x.rowAlone(row),
                cheapest(x, costs, goals, 0, isFree, 2 * x.told(3)));
        }
    }

    private static void fewest() {
        EDGES.says(34, "FEWEST: the fewest THREADS that it can have.");
        FewEnds x = rows(2, "", "b");
        EDGES.row(x, "fewest", x::fewest, 0, 1);
        // However dear the LINKS are.
        FewEnds y = rows(2, "end 0;carry 1 cost 9;", "aba");
        EDGES.row(y, "fewest of dear ones", y::fewest, 1, 1);
        String all = "bbbbbbbb";
        FewEnds one = rows(2, "", all, all, all, all, all, all);
        EDGES.row(one, "fewest of 48 NEXT to one another", one::fewest, 0, 1);
        FewEnds most = rows(2, "carry 0 cost 0;wait 0 cost 0;", ALL_APART);
        EDGES.row(most, "fewest of 48 apart", most::fewest, 24, 24);
        EDGES.good(most, "fewest(NONE) of 48 apart", most.fewest(-1), 48);
    }

    private static void gap() {
        EDGES.says(35, "GAP (below 0 never).");
        EDGES.good(new FewEnds(), "gap() without STITCHES", new FewEnds().gap(), 0);
        FewEnds x = rows(2, "carry 1 cost 1;", "aba");
        EDGES.good(x, "gap() without LINKS", x.gap(), 60 - 41);
        x.plain();
        EDGES.good(x, "gap() of the least", x.gap(), 0);
        EDGES.says(35, "GAP: COST of the PLAN less LEAST of all.");
        FewEnds tangled = rows(2, "carry 1 cost 1;balls 1 cost 7;", "aba");
        tangled.plain();
        EDGES.good(tangled, "gap() of TANGLES alone", tangled.gap(), 7);
        FewEnds dear = rows(2, "end 2;carry 1 cost 9;", "aba");
        dear.plain();
        EDGES.good(dear, "gap() of a LINK that is too dear", dear.gap(), 9 - 4);
        dear.clear();
        EDGES.good(dear, "gap() without it", dear.gap(), 0);
    }

    private static void worth() {
        EDGES.says(36, "The FRACTION is LEAST of all by COST of the PLAN (6: that is 0).");
        FewEnds none = new FewEnds();
        EDGES.refused(none, "worth() without STITCHES", none.worth(), 6);
        FewEnds free = rows(1, "end 0;", "aa");
        EDGES.refused(free, "worth() of a COST of 0", free.worth(), 6);
        EDGES.due("top() then", free.top(), 0);
        EDGES.due("bottom() then", free.bottom(), 1);
        FewEnds least = rows(1, "end 0;balls 1 cost 1;", "aa");
        EDGES.good(least, "worth() of a COST of 1", least.worth());
        EDGES.due("top() of 0 by 1", least.top(), 0);
        EDGES.due("bottom() of 0 by 1", least.bottom(), 1);
        FewEnds x = rows(2, "end 3;carry 1 cost 1;", "aba");
        x.worth();
        EDGES.due("top() of 13 by 18", x.top(), 13);
        EDGES.due("bottom() of 13 by 18", x.bottom(), 18);
        x.plain();
        x.worth();
        EDGES.due("top() of 13 by 13", x.top(), 1);
        EDGES.due("bottom() of 13 by 13", x.bottom(), 1);
    }

    // ---- ROW ALONE

    private static void rowAloneEnds() {
        EDGES.says(37, "ROW ALONE (1).");
        FewEnds x = rows(2, "", "ab", "ab", "ab");
        EDGES.none(x, "rowAlone(-1)", x.rowAlone(-1), 1);
        EDGES.none(x, "rowAlone(3)", x.rowAlone(3), 1);
        EDGES.good(x, "rowAlone(0): no ROW is ahead", x.rowAlone(0), 40);
        EDGES.good(x, "rowAlone(2): the last one", x.rowAlone(2), 1);
        FewEnds one = rows(1, "", "a");
        EDGES.good(one, "rowAlone(0) of one STITCH", one.rowAlone(0), 20);
        FewEnds wide = rows(2, "carry 0 cost 0;end 99;", "abababab");
        EDGES.good(wide, "rowAlone(0) of eight apart", wide.rowAlone(0), 8 * 198);
    }

    private static void rowAloneOneEach() {
        EDGES.says(37, "may go on with one of them each: LINKS that come to its STITCHES, and two ENDS for each STITCH "
            + "to which none comes");
        // Two THREADS for one STITCH, then one for two.
        FewEnds x = rows(3, "carry 0 cost 0;wait 2 cost 3;", "aba", "cac");
        EDGES.good(x, "rowAlone(1): one of two goes on", x.rowAlone(1), 3 + 40);
        FewEnds y = rows(3, "carry 0 cost 0;wait 2 cost 3;", "cab", "aca");
        EDGES.good(y, "rowAlone(1): to one of two", y.rowAlone(1), 3 + 3 + 20);
        int[] due = {4 + 3, 4 + 4, 4 + 4};
        for (int cost = 3; cost <= 5; cost++) {
            FewEnds z = rows(3, "end 2;carry 0 cost 0;wait 0 cost " + cost + ";", "ab", "bc");
            EDGES.good(z, "rowAlone(1): nothing comes", z.rowAlone(1), 8);
            FewEnds w = rows(3, "end 2;carry 0 cost 0;wait 0 cost " + cost + ";", "ab", "ac");
            EDGES.good(w, "rowAlone(1): two END or " + cost, w.rowAlone(1), due[cost - 3]);
        }
    }

    private static void rowAloneAhead() {
        EDGES.says(37, "if THREADS of the PLAN that end in the ROW ahead may go on");
        // a is two ROWS ahead of ROW 2, knitted round.
        FewEnds x = rows(2, "round;carry 9 cost 1;", "ab", "bb", "ab");
        EDGES.good(x, "rowAlone(2): a ends two ROWS ahead", x.rowAlone(2), 20 + 1);
        EDGES.good(x, "rowAlone(1): b ends in the ROW ahead", x.rowAlone(1), 0);
        FewEnds y = rows(2, "carry 1 cost 1;wait 2 cost 2;", "aba", "bab");
        EDGES.good(y, "rowAlone(1): both a's end there", y.rowAlone(1), 2 + 2 + 1);
        Check.link(y, 0, 2);
        EDGES.good(y, "rowAlone(1): 0's THREAD ends at 2", y.rowAlone(1), 2 + 2 + 1);
        FewEnds z = rows(2, "carry 1 cost 5;wait 0 cost 1;end 9;", "abab", "aabb");
        // 0 a, 1 b, 2 a, 3 b; 4 b at 3, 5 b at 2, 6 a at 1, 7 a at 0.
        EDGES.good(z, "rowAlone(1): 3 to 4, 4 to 5, none to 6, 0 to 7 or 6 to 7", z.rowAlone(1), 18);
    }

    private static void rowAloneLinks() {
        EDGES.says(37, "(LINKS of the PLAN to or in this ROW, and behind it, do not count: "
            + "a THREAD ends where its last STITCH ahead of this ROW is)");
        FewEnds x = rows(2, "carry 1 cost 5;wait 7 cost 2;end 3;", "aba", "aba", "aba");
        // 0 a, 1 b, 2 a; 3 a at 2, 4 b, 5 a at 0; 6 a at 0, 7 b, 8 a at 2.
        EDGES.good(x, "rowAlone(1) without LINKS", x.rowAlone(1), 0 + 2 + 2);
        Check.link(x, 0, 5, 1, 4);
        EDGES.good(x, "rowAlone(1): LINKS to it", x.rowAlone(1), 0 + 2 + 2);
        Check.link(x, 5, 6, 4, 7);
        EDGES.good(x, "rowAlone(1): LINKS from it", x.rowAlone(1), 0 + 2 + 2);
        x.clear();
        Check.link(x, 3, 5);
        EDGES.good(x, "rowAlone(1): LINKS in it", x.rowAlone(1), 0 + 2 + 2);
        x.clear();
        Check.link(x, 0, 2);
        EDGES.good(x, "rowAlone(1): a LINK in the ROW ahead", x.rowAlone(1), 0 + 2 + 5);
        EDGES.good(x, "rowAlone(2): 0 to 2 counts for nothing", x.rowAlone(2), 0 + 2 + 2);
    }

    private static void rowAloneRound() {
        EDGES.says(37, "a THREAD ends where its last STITCH ahead of this ROW is");
        FewEnds x = rows(2, "round;carry 9 cost 1;end 3;", "ab", "aa", "ba");
        // 0 a, 1 b; 2 a, 3 a; 4 b, 5 a: 0's THREAD goes over ROW 1.
        Check.link(x, 0, 5);
        EDGES.good(x, "rowAlone(1): it ends in ROW 0", x.rowAlone(1), 1);
        EDGES.good(x, "rowAlone(2): it does not end in ROW 1", x.rowAlone(2), 6 + 1);
        x.clear();
        Check.link(x, 0, 3);
        EDGES.good(x, "rowAlone(2): it ends in ROW 1", x.rowAlone(2), 6 + 1);
        FewEnds y = rows(2, "round;carry 9 cost 1;end 3;", "aa", "bb", "aa");
        Check.link(y, 0, 1, 1, 4);
        EDGES.good(y, "rowAlone(2): it ends two ROWS ahead", y.rowAlone(2), 6);
    }

    // ---- OTHER, ALTERED, BEST, FEW

    private static void other() {
        EDGES.says(38, "`int other()`: OTHER.");
        FewEnds empty = new FewEnds();
        EDGES.good(empty, "other() without STITCHES", empty.other(), 0);
        EDGES.says(38, "OTHER: LEAST of all, if it were knitted the other way (round, there and back).");
        FewEnds one = rows(1, "", "a");
        EDGES.good(one, "other() of one STITCH", one.other(), 20);
        FewEnds x = rows(2, "carry 0 cost 0;wait 0 cost 7;", "aabb", "aabb");
        // There and back 3 b is NEXT to 4 b and 1 a WAITS; round both a's and b's are cut.
        EDGES.good(x, "least(NONE), there and back", x.least(-1), 20 + 7 + 20);
        EDGES.good(x, "other(), round", x.other(), 80);
        EDGES.good(x, "least(NONE) then", x.least(-1), 47);
        EDGES.good(x, "told(14) then", x.told(14), 0);
        FewEnds y = rows(2, "carry 0 cost 0;wait 0 cost 7;round;", "aabb", "aabb");
        EDGES.good(y, "least(NONE), round", y.least(-1), 80);
        EDGES.good(y, "other(), there and back", y.other(), 47);
        EDGES.good(y, "told(14) then, round", y.told(14), 1);
        EDGES.good(y, "stitch(4, 0) then, round", y.stitch(4, 0), 0);
    }

    private static void saves() {
        EDGES.says(39, "it SAVES LEAST of all less what that is then, less ALTER.");
        int[] alter = {0, 1, 19, 20, 21, 999};
        for (int cost : alter) {
            FewEnds x = rows(2, "alter " + cost + ";", "aba");
            EDGES.good(x, "saves(1, 0), ALTER " + cost, x.saves(1, 0), 20 - cost);
        }
        EDGES.says(39, "ALTER: what altering one costs (0 to 999; 5 without)");
        FewEnds x = rows(2, "", "aba");
        EDGES.good(x, "saves(1, 0) without it", x.saves(1, 0), 15);
        EDGES.good(x, "saves(0, 1)", x.saves(0, 1), -5);
        // What a twist costs goes with the COLOUR: b shows 1, c 2.
        FewEnds y = rows(3, "alter 0;carry 0 cost 0;twist 1;", "aba");
        EDGES.good(y, "saves(1, 2): the twist behind it", y.saves(1, 2), -1);
    }

    private static void savesMinusOne() {
        EDGES.says(39, "STATUS tells NONE from -1 (1: its own, too)");
        FewEnds x = rows(2, "alter 21;", "aba");
        EDGES.good(x, "saves(1, 0)", x.saves(1, 0), -1);
        EDGES.none(x, "saves(1, 1): its own", x.saves(1, 1), 1);
        EDGES.none(x, "saves(0, 0): its own", x.saves(0, 0), 1);
        EDGES.none(x, "saves(-1, 0)", x.saves(-1, 0), 1);
        EDGES.none(x, "saves(3, 0)", x.saves(3, 0), 1);
        EDGES.good(x, "saves(2, 1): the last STITCH", x.saves(2, 1), -21);
    }

    private static void savesColours() {
        EDGES.says(39, "ALTERED: of one STITCH the COLOUR is another one (of the five there are)");
        FewEnds x = rows(5, "alter 0;", "ab");
        for (int colour = 0; colour < 5; colour++) {
            if (colour != 1) {
                EDGES.good(x, "saves(1, " + colour + ")", x.saves(1, colour), colour == 0 ? 20 : 0);
            }
        }
        EDGES.none(x, "saves(1, 5)", x.saves(1, 5), 1);
        EDGES.none(x, "saves(1, -1)", x.saves(1, -1), 1);
        FewEnds two = rows(2, "alter 0;", "ab");
        EDGES.none(two, "saves(1, 2) of two COLOURS", two.saves(1, 2), 1);
        FewEnds one = rows(1, "", "aa");
        EDGES.none(one, "saves(0, 1) of one COLOUR", one.saves(0, 1), 1);
    }

    private static void best(FewEnds x, String of, long saves, long stitch, long colour) {
        EDGES.row(x, "best of " + of, x::best, saves, stitch, colour);
    }

    private static void bestOfSeveral() {
        EDGES.says(40, "BEST of these: that which SAVES most; of several the first STITCH, then COLOUR.");
        best(rows(3, "alter 0;", "abc"), "abc", 20, 0, 1);
        best(rows(3, "alter 0;", "cab"), "cab", 20, 0, 0);
        best(rows(3, "alter 0;", "aacb"), "aacb", 20, 2, 0);
        best(rows(3, "alter 0;", "aab"), "aab", 20, 2, 0);
        best(rows(2, "alter 21;", "aab"), "aab at 21", -1, 2, 0);
        best(rows(2, "alter 999;", "aabb"), "aabb at 999", -999, 0, 1);
        best(rows(5, "", "e"), "one STITCH of five COLOURS", -5, 0, 0);
        best(rows(2, "", "a"), "one STITCH of two COLOURS", -5, 0, 1);
        // One SAVES more than those ahead of it.
        best(rows(2, "alter 0;carry 0 cost 0;", "abaab"), "abaab", 40, 1, 0);
    }

    private static void bestOfNone() {
        EDGES.says(40, "STATUS tells NONE from -1 (1; 6: fewer than two COLOURS, no STITCHES).");
        FewEnds one = rows(1, "", "aa");
        FewEnds none = new FewEnds();
        for (int what = 0; what <= 2; what++) {
            EDGES.none(one, "best(" + what + ") of one COLOUR", one.best(what), 6);
            EDGES.none(none, "best(" + what + ") without STITCHES", none.best(what), 6);
        }
        for (int what : new int[] {Integer.MIN_VALUE, -1, 3, Integer.MAX_VALUE}) {
            EDGES.none(one, "best(" + what + ") of one COLOUR", one.best(what), 1);
            EDGES.none(none, "best(" + what + ") without STITCHES", none.best(what), 1);
        }
        FewEnds two = rows(2, "alter 21;", "ab");
        EDGES.good(two, "best(0) of two COLOURS", two.best(0), -1);
        EDGES.none(two, "best(3) of two COLOURS", two.best(3), 1);
    }

    private static void fewRange() {
        EDGES.says(41, "FEW: how many (1).");
        FewEnds one = rows(2, "", "a");
        EDGES.good(one, "few(1) of one STITCH", one.few(1), 0);
        EDGES.none(one, "few(0) of one STITCH", one.few(0), 1);
        EDGES.none(one, "few(5) of one STITCH", one.few(5), 1);
        EDGES.says(41, "at most so many (1 to 4)");
        // Each b SAVES 40 as long as a's are at both sides of it, and the last one 20.
        FewEnds x = rows(2, "alter 0;carry 0 cost 0;wait 0 cost 0;", "abababab");
        for (int many : new int[] {Integer.MIN_VALUE, 0, -1, 5, Integer.MAX_VALUE}) {
            EDGES.none(x, "few(" + many + ")", x.few(many), 1);
        }
        for (int many = 1; many <= 4; many++) {
            EDGES.good(x, "few(" + many + ")", x.few(many), many);
            EDGES.none(x, "fewAt(" + many + ", 0)", x.fewAt(many, 0), 6);
        }
        EDGES.row(x, "fewAt(k, 0)", k -> x.fewAt(k, 0), 1, 3, 5, 7);
        EDGES.row(x, "fewAt(k, 1)", k -> x.fewAt(k, 1), 0, 0, 0, 0);
        EDGES.row(x, "fewAt(k, 2)", k -> x.fewAt(k, 2), 40, 40, 40, 20);
    }

    private static void fewUntilNothing() {
        EDGES.says(41, "as long as it SAVES more than 0: how many.");
        int[] alter = {18, 19, 20, 21};
        int[] due = {3, 3, 0, 0};
        for (int k = 0; k < alter.length; k++) {
            FewEnds x = rows(4, "alter " + alter[k] + ";", "abcd");
            EDGES.good(x, "few(4), ALTER " + alter[k], x.few(4), due[k]);
            EDGES.good(x, "best(0), ALTER " + alter[k], x.best(0), 20 - alter[k]);
        }
        FewEnds one = rows(1, "", "aa");
        EDGES.good(one, "few(4) of one COLOUR", one.few(4), 0);
        EDGES.good(new FewEnds(), "few(4) without STITCHES", new FewEnds().few(4), 0);
    }

    private static void fewOneBehindTheOther() {
        EDGES.says(41, "FEW: the BEST again and again, at most so many (1 to 4), each on the CHART as altered ahead");
        FewEnds x = rows(4, "alter 19;", "abcd");
        EDGES.good(x, "few(4)", x.few(4), 3);
        // a becomes b, then c, then d: none is altered twice for nothing.
        EDGES.row(x, "fewAt(k, 0)", k -> x.fewAt(k, 0), 0, 2, 3);
        EDGES.row(x, "fewAt(k, 1)", k -> x.fewAt(k, 1), 1, 1, 1);
        EDGES.row(x, "fewAt(k, 2)", k -> x.fewAt(k, 2), 1, 1, 1);
    }

    private static void nothingIsChanged() {
        EDGES.says(41, "(Nothing is changed.)");
        FewEnds x = rows(4, "alter 0;", "abcd");
        Check.directions(x, "knit a 1;knit b 1;");
        x.few(4);
        EDGES.row(x, "stitch(i, 0)", i -> x.stitch(i, 0), 0, 1, 2, 3);
        EDGES.row(x, "colour(c, 2)", c -> x.colour(c, 2), 1, 1, 1, 1);
        EDGES.good(x, "least(NONE)", x.least(-1), 80);
        EDGES.good(x, "planCost()", x.planCost(), 80);
        best(x, "it behind few()", 20, 0, 1);
        EDGES.good(x, "few(4) again", x.few(4), 3);
        EDGES.good(x, "follow()", x.follow(), 1);
    }

    private static void fewAt() {
        EDGES.says(42, "the k-th, what 0: STITCH, 1: COLOUR, 2: what it SAVES (1; 6: none such)");
        FewEnds x = rows(3, "alter 5;", "abaca");
        EDGES.none(x, "fewAt(0, 0) ahead of any few()", x.fewAt(0, 0), 6);
        EDGES.good(x, "few(2)", x.few(2), 2);
        EDGES.row(x, "fewAt(0, ..)", what -> x.fewAt(0, what), 1, 0, 15);
        EDGES.row(x, "fewAt(1, ..)", what -> x.fewAt(1, what), 3, 0, 15);
        for (int k : new int[] {Integer.MIN_VALUE, -1, 2, 3, 4, Integer.MAX_VALUE}) {
            EDGES.none(x, "fewAt(" + k + ", 0)", x.fewAt(k, 0), 6);
            EDGES.none(x, "fewAt(" + k + ", 3)", x.fewAt(k, 3), 1);
        }
        for (int what : new int[] {Integer.MIN_VALUE, -1, 3, Integer.MAX_VALUE}) {
            EDGES.none(x, "fewAt(0, " + what + ")", x.fewAt(0, what), 1);
        }
    }

    private static void fewAtLatest() {
        EDGES.says(42, "Of few() latest with STATUS 0");
        FewEnds x = rows(3, "alter 5;", "abaca");
        x.few(2);
        x.few(5);
        x.few(0);
        EDGES.good(x, "fewAt(1, 0): few() with STATUS 1 leaves them", x.fewAt(1, 0), 3);
        x.best(0);
        x.mark();
        EDGES.good(x, "another CHART", Check.chart(x, "size 1 1;colour a shows 0 yarn 1;row a;"), 1);
        EDGES.good(x, "fewAt(1, 0) behind another CHART", x.fewAt(1, 0), 3);
        EDGES.good(x, "few(1) of it", x.few(1), 0);
        EDGES.none(x, "fewAt(0, 0): there was none", x.fewAt(0, 0), 6);
        x.back();
        EDGES.none(x, "fewAt(0, 0) behind back()", x.fewAt(0, 0), 6);
        EDGES.good(x, "few(1) of the first CHART", x.few(1), 1);
        EDGES.good(x, "fewAt(0, 0) of it", x.fewAt(0, 0), 1);
        EDGES.none(x, "fewAt(1, 0) of it", x.fewAt(1, 0), 6);
    }

    // ---- SEWN

    private static void sewn(FewEnds x, String of, long set, long cost) {
        EDGES.good(x, "sewn() of " + of, x.sewn(), set);
        EDGES.good(x, "sewnCost() of " + of, x.sewnCost(), cost);
    }

    private static void sewnSets() {
        EDGES.says(43, "(a set: 1 for COLOUR 0, 2 for COLOUR 1 ..)");
        int[] sew = {0, 1, 19, 20, 999};
        for (int cost : sew) {
            boolean all = cost < 20;
            sewn(rows(5, "sew " + cost + ";", "abcde"), "five at " + cost, all ? 30 : 0, all ? 20 + 4 * cost : 100);
        }
        String[] two = {"ab", "ac", "ad", "ae"};
        for (int k = 0; k < two.length; k++) {
            sewn(rows(5, "sew 1;", two[k]), two[k], 2 << k, 21);
        }
        EDGES.says(43, "all STITCHES of some COLOURS (not of COLOUR 0) are knitted in COLOUR 0, and sewn on after");
        sewn(rows(3, "sew 6;", "bcb"), "bcb: COLOUR 0 stands nowhere", 4 + 2, 20 + 18);
        sewn(rows(3, "sew 7;", "bcb"), "bcb at 7", 0, 40);
        sewn(rows(3, "sew 0;", "aaa"), "aaa: no set is less", 0, 20);
        sewn(rows(1, "sew 0;", "aaa"), "one COLOUR", 0, 20);
        EDGES.says(44, "LEAST of all then, and SEW for each: the set with the least");
        sewn(rows(3, "sew 6;", "abaccc"), "abaccc", 2 + 4, 20 + 24);
        sewn(rows(3, "sew 7;", "abaccc"), "abaccc at 7", 2, 20 + 20 + 7);
        sewn(rows(2, "", "ab"), "ab without SEW told", 2, 25);
        // A twist shows COLOUR 0 then: 0 of a instead of 1 of b.
        sewn(rows(2, "sew 0;carry 0 cost 0;twist 1;end 1;", "aba"), "aba", 2, 2);
    }

    private static void sewnOfSeveral() {
        EDGES.says(43, "the set with the least (a set: 1 for COLOUR 0, 2 for COLOUR 1 ..); of several the least.");
        sewn(rows(3, "sew 20;", "abc"), "abc: as dear as none", 0, 60);
        sewn(rows(3, "sew 10;", "abcc"), "abcc: c as dear as none", 2, 20 + 20 + 10);
        sewn(rows(3, "sew 10;", "abbc"), "abbc: b as dear as none", 4, 20 + 20 + 10);
        sewn(rows(2, "sew 0;end 0;", "ab"), "ab: all cost nothing", 0, 0);
    }

    private static void sewnOfNone() {
        EDGES.says(43, "SEWN: the set (6: no COLOURS).");
        FewEnds x = new FewEnds();
        EDGES.none(x, "sewn()", x.sewn(), 6);
        EDGES.says(44, "What it costs (6).");
        EDGES.none(x, "sewnCost()", x.sewnCost(), 6);
        FewEnds y = rows(3, "sew 1;", "abc");
        y.sewn();
        y.sewnCost();
        EDGES.row(y, "stitch(i, 0): they stay", i -> y.stitch(i, 0), 0, 1, 2);
        EDGES.good(y, "least(NONE): it stays", y.least(-1), 60);
    }
}
