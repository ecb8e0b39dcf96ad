/** Promises 33 to 44: the least, and how far a PLAN or another CHART is from it. */
public final class LeastTest {
    private static final Check CHECK = new Check();

    public static void main(String[] args) {
        least();
        leastIsNoGreed();
        leastByChains();
        leastOfMost();
        fewest();
        gap();
        worth();
        rowAlone();
        rowAloneByEnds();
        rowAloneRound();
        other();
        saves();
        best();
        few();
        fewKept();
        sewn();
        CHECK.end("LeastTest");
    }

    private static void least() {
        FewEnds x = Check.knitted(ChartTest.THERE);
        CHECK.good(33, x, "least(0)", x.least(0), 23);
        CHECK.good(33, x, "least(1)", x.least(1), 23);
        CHECK.good(33, x, "least(NONE)", x.least(-1), 46);
        Check.link(x, 0, 7, 1, 5);
        CHECK.good(33, x, "least(NONE), whatever the PLAN", x.least(-1), 46);
        CHECK.none(33, x, "least(-2)", x.least(-2), 1);
        CHECK.none(33, x, "least(2)", x.least(2), 1);
        FewEnds y = Check.knitted(ChartTest.ROUND);
        // 0 to 5 costs 18, more than the two ENDS of a THREAD; 1, 2, 3, 4 are NEXT to one another.
        CHECK.good(33, y, "least(0), round", y.least(0), 24);
        CHECK.good(33, y, "least(1), round", y.least(1), 12);
        CHECK.good(33, y, "least(2): no STITCHES", y.least(2), 0);
        CHECK.good(33, y, "least(NONE), round", y.least(-1), 36);
        // TANGLES do not count.
        FewEnds z = Check.knitted("size 2 1;colour a shows 1 yarn 1;colour b shows 1 yarn 1;row a b;"
            + "end 4;balls 1 cost 99;");
        CHECK.good(33, z, "least(NONE) without TANGLES", z.least(-1), 16);
        FewEnds e = Check.knitted("size 3 1;colour a shows 1 yarn 1;colour b shows 1 yarn 1;row a b a;end 0;");
        CHECK.good(33, e, "least(NONE) of ENDS that cost nothing", e.least(-1), 0);
    }

    private static void leastIsNoGreed() {
        // a b a, then from the right b a b, then from the left a b a: WAITS go two ways from the first ROW.
        // 0 a, 1 b, 2 a; 3 b, 4 a, 5 b; 6 a, 7 b, 8 a; b goes 1, 3 or 5, and not both; 3 to 5 is CARRIED at 1.
        FewEnds x = Check.knitted("size 3 3;colour a shows 1 yarn 1;colour b shows 1 yarn 1;"
            + "row a b a;row b a b;row a b a;carry 1 cost 1;wait 1 cost 3;end 2;");
        // a: 0 to 2 (1), 2 to 4 (3), 4 to 6 (3), 6 to 8 (1) and two ENDS (4).
        CHECK.good(33, x, "least(0)", x.least(0), 12);
        // b: 1 to 3 (3), 3 to 5 (1), 5 to 7 (3) and two ENDS (4).
        CHECK.good(33, x, "least(1)", x.least(1), 11);
        // 4 would be 3's cheapest, but 4 alone can be 7's: a chain must change.
        FewEnds y = Check.knitted("size 4 2;colour a shows 1 yarn 1;colour b shows 1 yarn 1;"
            + "row a b b a;row a b b b;carry 1 cost 1;wait 3 cost 2;end 9;");
        // a: 0 (place 0), 3 (place 3), 7 (row 1, place 0): 0 and 3 can both go to 7, and neither to the other.
        CHECK.good(33, y, "least(0)", y.least(0), 2 * 18 + 2);
        CHECK.good(34, y, "fewest(0)", y.fewest(0), 2);
    }

    /** STITCHES that must give up the LINK that is cheapest for them, so that the sum is least. */
    private static void leastByChains() {
        FewEnds x = Check.knitted("size 4 2;colour a shows 1 yarn 1;colour b shows 3 yarn 1;"
            + "row a b a b;row a a b a;end 2;carry 0 cost 0;twist 1;wait 1 cost 1;");
        // a: 0 and 2 begin (8), 2 to 4 and 0 to 6 WAIT (2), 6 to 7 is NEXT; 0 to 2 and 4 to 6 would be 3 each.
        CHECK.good(33, x, "least(0) by chains", x.least(0), 10);
        // b: 1 begins (4), 1 to 3 is TWISTED (1), 3 to 5 WAITS (1).
        CHECK.good(33, x, "least(1) by chains", x.least(1), 6);
        FewEnds y = Check.knitted("size 4 3;colour a shows 0 yarn 1;colour b shows 3 yarn 1;"
            + "row a a b a;row a a b b;row b a b b;end 4;carry 2 cost 2;wait 0 cost 1;");
        // a: 0, 3 and 9 begin (24), 0 to 1 and 6 to 7 are NEXT, 1 to 6 WAITS (1).
        CHECK.good(33, y, "least(0) of three ROWS", y.least(0), 25);
        // b: 2, 4 and 8 begin (24), 4 to 5 and 10 to 11 are NEXT, 5 to 10 WAITS (1).
        CHECK.good(33, y, "least(1) of three ROWS", y.least(1), 25);
        CHECK.good(33, y, "least(NONE) of three ROWS", y.least(-1), 50);
    }

    private static void leastOfMost() {
        String size = "size 8 6;colour a shows 1 yarn 1;colour b shows 1 yarn 1;";
        FewEnds x = Check.knitted(size + "row a a a a a a a a;".repeat(6));
        CHECK.good(33, x, "least(0) of 48 STITCHES", x.least(0), 20);
        CHECK.good(34, x, "fewest(0) of 48 STITCHES", x.fewest(0), 1);
        CHECK.good(37, x, "rowAlone(5) of 8 STITCHES", x.rowAlone(5), 0);
        // One call leaves nothing for the next.
        FewEnds y = Check.knitted(size + "row a a a a b b b b;".repeat(6) + "wait 0 cost 1;");
        for (int k = 0; k < 9; k++) {
            CHECK.good(33, y, "least(0) of half the STITCHES", y.least(0), 20 + 3);
            CHECK.good(33, y, "least(1) of half the STITCHES", y.least(1), 20 + 2);
            CHECK.good(37, y, "rowAlone(1) of them", y.rowAlone(1), 1);
            CHECK.good(34, y, "fewest(NONE) of them", y.fewest(-1), 2);
        }
    }

    private static void fewest() {
        FewEnds x = Check.knitted(ChartTest.THERE);
        CHECK.good(34, x, "fewest(0)", x.fewest(0), 1);
        CHECK.good(34, x, "fewest(1)", x.fewest(1), 1);
        CHECK.good(34, x, "fewest(NONE)", x.fewest(-1), 2);
        CHECK.none(34, x, "fewest(2)", x.fewest(2), 1);
        CHECK.none(34, x, "fewest(-2)", x.fewest(-2), 1);
        FewEnds y = Check.knitted(ChartTest.ROUND);
        // However dear the LINK is.
        CHECK.good(34, y, "fewest(0), TWISTED", y.fewest(0), 1);
        CHECK.good(34, y, "fewest(2): no STITCHES", y.fewest(2), 0);
        CHECK.good(34, y, "fewest(NONE)", y.fewest(-1), 2);
        FewEnds z = Check.knitted("size 4 1;colour a shows 1 yarn 1;colour b shows 1 yarn 1;row a b b a;"
            + "carry 1 cost 0;end 0;twist 0;");
        CHECK.good(34, z, "fewest(0): too far", z.fewest(0), 2);
        CHECK.good(34, z, "fewest(NONE): too far", z.fewest(-1), 3);
    }

    private static void gap() {
        FewEnds x = Check.knitted(ChartTest.THERE);
        CHECK.good(35, x, "gap() without LINKS", x.gap(), 142);
        Check.link(x, 0, 3, 3, 4, 4, 6, 6, 7, 1, 2);
        CHECK.good(35, x, "gap()", x.gap(), 17);
        Check.link(x, 2, 5);
        CHECK.good(35, x, "gap() of the best", x.gap(), 0);
        FewEnds y = new FewEnds();
        CHECK.good(35, y, "gap() without a CHART", y.gap(), 0);
    }

    private static void worth() {
        FewEnds x = Check.knitted(ChartTest.THERE);
        CHECK.good(36, x, "worth() without LINKS", x.worth());
        CHECK.due(36, "top(): 46 of 188", x.top(), 23);
        CHECK.due(36, "bottom(): 46 of 188", x.bottom(), 94);
        Check.link(x, 0, 3, 3, 4, 4, 6, 6, 7, 1, 2, 2, 5);
        CHECK.good(36, x, "worth() of the best", x.worth());
        CHECK.due(36, "top(): 46 of 46", x.top(), 1);
        CHECK.due(36, "bottom(): 46 of 46", x.bottom(), 1);
        // LEAST of 0 by a COST of TANGLES alone.
        FewEnds y = Check.knitted("size 2 1;colour a shows 1 yarn 1;row a a;end 0;balls 1 cost 7;");
        CHECK.good(36, y, "worth() of nothing", y.worth());
        CHECK.due(36, "top(): 0 of 7", y.top(), 0);
        CHECK.due(36, "bottom(): 0 of 7", y.bottom(), 1);
        FewEnds least = Check.knitted("size 2 1;colour a shows 1 yarn 1;row a a;end 0;balls 1 cost 1;");
        CHECK.good(36, least, "worth() by a COST of 1", least.worth());
        CHECK.due(36, "top(): 0 of 1", least.top(), 0);
        CHECK.due(36, "bottom(): 0 of 1", least.bottom(), 1);
        FewEnds z = Check.knitted("size 2 1;colour a shows 1 yarn 1;row a a;end 3;balls 1 cost 1;");
        CHECK.good(36, z, "worth()", z.worth());
        CHECK.due(36, "top(): 6 of 13", z.top(), 6);
        CHECK.due(36, "bottom(): 6 of 13", z.bottom(), 13);
        FewEnds empty = new FewEnds();
        CHECK.refused(36, empty, "worth() without a CHART", empty.worth(), 6);
        CHECK.due(36, "bottom() stays", empty.bottom(), 1);
    }

    private static void rowAlone() {
        FewEnds x = Check.knitted(ChartTest.THERE);
        CHECK.good(37, x, "rowAlone(0)", x.rowAlone(0), 42);
        CHECK.good(37, x, "rowAlone(1) without LINKS", x.rowAlone(1), 4);
        Check.link(x, 0, 3, 3, 4, 4, 6, 6, 7, 1, 2, 2, 5);
        CHECK.good(37, x, "rowAlone(0): LINKS in it do not count", x.rowAlone(0), 42);
        CHECK.good(37, x, "rowAlone(1)", x.rowAlone(1), 4);
        CHECK.none(37, x, "rowAlone(-1)", x.rowAlone(-1), 1);
        CHECK.none(37, x, "rowAlone(2)", x.rowAlone(2), 1);
    }

    private static void rowAloneByEnds() {
        // 0 a, 1 b, 2 a; 3 a (right), 4 b, 5 a (left).
        FewEnds x = Check.knitted("size 3 2;colour a shows 1 yarn 1;colour b shows 1 yarn 1;row a b a;row a b a;"
            + "carry 1 cost 9;wait 7 cost 2;end 3;");
        CHECK.good(37, x, "rowAlone(1): 2 to 3, 1 to 4, 0 to 5", x.rowAlone(1), 4);
        Check.link(x, 0, 2);
        CHECK.good(37, x, "rowAlone(1): 0 does not end there", x.rowAlone(1), 0 + 2 + 6);
        x.clear();
        Check.link(x, 0, 5, 1, 4);
        CHECK.good(37, x, "rowAlone(1): LINKS to it do not count", x.rowAlone(1), 4);
        // A ROW's own LINK is taken where it is cheaper.
        FewEnds y = Check.knitted("size 3 2;colour a shows 1 yarn 1;colour b shows 1 yarn 1;row a b a;row a b a;"
            + "carry 1 cost 1;wait 7 cost 2;end 3;");
        CHECK.good(37, y, "rowAlone(1): 2 to 3, 1 to 4, 3 to 5", y.rowAlone(1), 3);
        CHECK.good(37, y, "rowAlone(0): 0 to 2", y.rowAlone(0), 6 + 1 + 6);
    }

    private static void rowAloneRound() {
        FewEnds x = Check.knitted("size 2 3;colour a shows 1 yarn 1;colour c shows 1 yarn 1;row a c;row c c;row a c;"
            + "round;carry 9 cost 1;end 3;");
        CHECK.good(37, x, "rowAlone(2): 0 ends too far ahead", x.rowAlone(2), 6 + 1);
        Check.link(x, 0, 4, 1, 5);
        CHECK.good(37, x, "rowAlone(2): however it goes on", x.rowAlone(2), 6 + 1);
        CHECK.good(37, x, "rowAlone(1): 1 ends in the ROW ahead, though it goes on behind", x.rowAlone(1), 0);
        x.clear();
        // What goes from the ROW ahead to one behind this ROW ends there.
        FewEnds y = Check.knitted("size 2 3;colour a shows 1 yarn 1;colour c shows 1 yarn 1;row a c;row a a;row c a;"
            + "round;carry 9 cost 1;end 3;");
        Check.link(y, 0, 5);
        CHECK.good(37, y, "rowAlone(1): 0 to 2, 2 to 3", y.rowAlone(1), 1);
    }

    private static void other() {
        FewEnds x = Check.knitted(ChartTest.THERE);
        CHECK.good(38, x, "other()", x.other(), 48);
        CHECK.good(38, x, "told(14) stays", x.told(14), 0);
        CHECK.good(38, x, "stitch(4, 1) stays", x.stitch(4, 1), 3);
        FewEnds y = Check.knitted(ChartTest.ROUND);
        // There and back: a c c, then from the right a c c: a 0, 3 WAIT at 1, c 1, 2 and 4, 5 WAITS at 1.
        CHECK.good(38, y, "other() of a round one", y.other(), 12 + 1 + 12 + 1);
        CHECK.good(38, y, "least(NONE) stays", y.least(-1), 36);
        FewEnds empty = new FewEnds();
        CHECK.good(38, empty, "other() without a CHART", empty.other(), 0);
    }

    private static void saves() {
        FewEnds x = Check.knitted(ChartTest.THERE);
        CHECK.good(39, x, "saves(1, 0)", x.saves(1, 0), -4);
        CHECK.good(39, x, "saves(5, 0) of -1", x.saves(5, 0), -1);
        CHECK.good(39, x, "saves(3, 1)", x.saves(3, 1), -23);
        CHECK.good(39, x, "saves(0, 1)", x.saves(0, 1), -3);
        CHECK.none(39, x, "saves(0, 0): its own", x.saves(0, 0), 1);
        CHECK.none(39, x, "saves(0, 2)", x.saves(0, 2), 1);
        CHECK.none(39, x, "saves(0, -1)", x.saves(0, -1), 1);
        CHECK.none(39, x, "saves(-1, 0)", x.saves(-1, 0), 1);
        CHECK.none(39, x, "saves(8, 0)", x.saves(8, 0), 1);
        CHECK.good(39, x, "stitch(1, 0) stays", x.stitch(1, 0), 1);
        FewEnds y = Check.knitted("size 3 1;colour a shows 1 yarn 1;colour b shows 1 yarn 1;colour c shows 0 yarn 1;"
            + "row a b a;carry 0 cost 0;twist 1;end 3;alter 4;");
        // a 6 and the twist 1, b 6; all a: 6; with c the twist costs nothing.
        CHECK.good(39, y, "saves(1, 0)", y.saves(1, 0), 13 - 6 - 4);
        CHECK.good(39, y, "saves(1, 2)", y.saves(1, 2), 13 - 12 - 4);
    }

    private static void best() {
        FewEnds x = Check.knitted(ChartTest.THERE);
        CHECK.good(40, x, "best(0) of -1", x.best(0), -1);
        CHECK.good(40, x, "best(1)", x.best(1), 5);
        CHECK.good(40, x, "best(2)", x.best(2), 0);
        CHECK.none(40, x, "best(-1)", x.best(-1), 1);
        CHECK.none(40, x, "best(3)", x.best(3), 1);
        FewEnds y = Check.knitted(row("a b c", "alter 0;"));
        // All of them SAVE 20: the first STITCH, then COLOUR.
        CHECK.good(40, y, "best(0)", y.best(0), 20);
        CHECK.good(40, y, "best(1)", y.best(1), 0);
        CHECK.good(40, y, "best(2)", y.best(2), 1);
        // Another CHART, another BEST.
        Check.chart(y, row("a a b", "alter 3;"));
        CHECK.good(40, y, "best(0) of another CHART", y.best(0), 17);
        CHECK.good(40, y, "best(1) of another CHART", y.best(1), 2);
        CHECK.good(40, y, "best(2) of another CHART", y.best(2), 0);
        FewEnds alone = Check.knitted(row("b", ""));
        CHECK.good(40, alone, "best(0) of one STITCH", alone.best(0), -5);
        CHECK.good(40, alone, "best(1) of one STITCH", alone.best(1), 0);
        CHECK.good(40, alone, "best(2) of one STITCH", alone.best(2), 0);
        FewEnds one = Check.knitted("size 2 1;colour a shows 1 yarn 1;row a a;");
        CHECK.none(40, one, "best(0) of one COLOUR", one.best(0), 6);
        CHECK.none(40, one, "best(3) of one COLOUR", one.best(3), 1);
        FewEnds empty = new FewEnds();
        CHECK.none(40, empty, "best(0) without a CHART", empty.best(0), 6);
    }

    /** A CHART of one ROW, with COLOURS a, b, c, d; each THREAD costs 20, CARRIED costs nothing. */
    private static String row(String names, String behind) {
        int width = (names.length() + 1) / 2;
        return "size " + width + " 1;colour a shows 1 yarn 1;colour b shows 1 yarn 1;colour c shows 1 yarn 1;"
            + "colour d shows 1 yarn 1;row " + names + ";" + behind;
    }

    private static void fewAre(FewEnds x, int[]... due) {
        for (int k = 0; k < due.length; k++) {
            for (int what = 0; what < 3; what++) {
                CHECK.good(42, x, "fewAt(" + k + ", " + what + ")", x.fewAt(k, what), due[k][what]);
            }
        }
        CHECK.none(42, x, "fewAt(" + due.length + ", 0)", x.fewAt(due.length, 0), 6);
    }

    private static void few() {
        FewEnds x = Check.knitted(row("a b c d", "alter 19;"));
        CHECK.none(41, x, "few(0)", x.few(0), 1);
        CHECK.none(41, x, "few(5)", x.few(5), 1);
        CHECK.none(42, x, "fewAt(0, 0) ahead of few()", x.fewAt(0, 0), 6);
        CHECK.none(42, x, "fewAt(-1, 0) ahead of few()", x.fewAt(-1, 0), 6);
        CHECK.good(41, x, "few(1)", x.few(1), 1);
        fewAre(x, new int[] {0, 1, 1});
        CHECK.good(41, x, "few(4)", x.few(4), 3);
        fewAre(x, new int[] {0, 1, 1}, new int[] {2, 1, 1}, new int[] {3, 1, 1});
        CHECK.good(41, x, "few(2)", x.few(2), 2);
        fewAre(x, new int[] {0, 1, 1}, new int[] {2, 1, 1});
        CHECK.good(41, x, "nothing is changed", x.stitch(0, 0), 0);
        CHECK.good(41, x, "best(0) behind few()", x.best(0), 1);
        CHECK.good(41, x, "best(1) behind few()", x.best(1), 0);
        FewEnds y = Check.knitted(row("a b c d", "alter 20;"));
        CHECK.good(41, y, "few(4): they SAVE 0", y.few(4), 0);
        CHECK.good(41, y, "best(0) of 0", y.best(0), 0);
        // One can't be saved: c stands twice.
        FewEnds z = Check.knitted(row("a b a c a d a c", "alter 0;"));
        CHECK.good(41, z, "few(4)", z.few(4), 2);
        fewAre(z, new int[] {1, 0, 20}, new int[] {5, 0, 20});
        FewEnds w = Check.knitted(row("a b a b a b a b", "alter 0;carry 0 cost 0;"));
        CHECK.good(41, w, "few(3)", w.few(3), 3);
        CHECK.good(41, w, "few(4)", w.few(4), 4);
        fewAre(w, new int[] {1, 0, 40}, new int[] {3, 0, 40}, new int[] {5, 0, 40}, new int[] {7, 0, 20});
    }

    private static void fewKept() {
        FewEnds x = Check.knitted(row("a b c d", "alter 19;"));
        x.few(2);
        x.few(0);
        CHECK.good(42, x, "fewAt(1, 0): few() with another STATUS leaves them", x.fewAt(1, 0), 2);
        // No range is told for k: there is none such below the first, just as behind the last.
        CHECK.none(42, x, "fewAt(-1, 0)", x.fewAt(-1, 0), 6);
        CHECK.none(42, x, "fewAt(-2147483648, 2)", x.fewAt(Integer.MIN_VALUE, 2), 6);
        CHECK.none(42, x, "fewAt(2147483647, 2)", x.fewAt(Integer.MAX_VALUE, 2), 6);
        CHECK.none(42, x, "fewAt(-1, -1): what comes first", x.fewAt(-1, -1), 1);
        CHECK.none(42, x, "fewAt(-1, 3): what comes first", x.fewAt(-1, 3), 1);
        CHECK.none(42, x, "fewAt(0, -1)", x.fewAt(0, -1), 1);
        CHECK.none(42, x, "fewAt(0, 3)", x.fewAt(0, 3), 1);
        CHECK.none(42, x, "fewAt(2, 3)", x.fewAt(2, 3), 1);
        Check.chart(x, "size 1 1;colour a shows 1 yarn 1;row a;");
        CHECK.good(42, x, "fewAt(1, 0) behind another CHART", x.fewAt(1, 0), 2);
        CHECK.good(41, x, "few(4) of one COLOUR", x.few(4), 0);
        CHECK.none(42, x, "fewAt(0, 0): there was none", x.fewAt(0, 0), 6);
        FewEnds empty = new FewEnds();
        CHECK.good(41, empty, "few(1) without a CHART", empty.few(1), 0);
    }

    private static void sewnAs(String names, String behind, int set, int cost) {
        FewEnds x = Check.knitted(row(names, behind));
        CHECK.good(43, x, "sewn() of " + names + " " + behind, x.sewn(), set);
        CHECK.good(44, x, "sewnCost() of " + names + " " + behind, x.sewnCost(), cost);
        CHECK.good(43, x, "stitch(1, 0) stays", x.stitch(1, 0), names.charAt(2) - 'a');
    }

    private static void sewn() {
        FewEnds x = Check.knitted(ChartTest.THERE);
        CHECK.good(43, x, "sewn()", x.sewn(), 2);
        CHECK.good(44, x, "sewnCost()", x.sewnCost(), 35);
        sewnAs("a b c b a", "sew 5;", 6, 20 + 15);
        sewnAs("a b c b a", "sew 0;", 6, 20);
        sewnAs("a b c b a", "sew 20;", 0, 60);
        sewnAs("a b c b a", "sew 10;", 4, 50);
        sewnAs("a b c d a", "sew 1;", 14, 23);
        sewnAs("a d a d d", "sew 6;", 8, 38);
        // COLOUR 0 need not be in the CHART.
        sewnAs("b b b", "sew 0;", 0, 20);
        sewnAs("b c b", "sew 4;", 6, 32);
        FewEnds one = Check.knitted("size 2 1;colour a shows 1 yarn 1;row a a;sew 0;");
        CHECK.good(43, one, "sewn() of one COLOUR", one.sewn(), 0);
        CHECK.good(44, one, "sewnCost() of one COLOUR", one.sewnCost(), 20);
        FewEnds empty = new FewEnds();
        CHECK.none(43, empty, "sewn() without COLOURS", empty.sewn(), 6);
        CHECK.none(44, empty, "sewnCost() without COLOURS", empty.sewnCost(), 6);
    }
}
