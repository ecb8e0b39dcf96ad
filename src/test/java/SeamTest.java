/** Promises 55 to 61: seams, balls, PLANS that are PLAIN, FILLED, TIDIED. */
public final class SeamTest {
    private static final Check CHECK = new Check();

    public static void main(String[] args) {
        seam();
        matched();
        buy();
        runsOut();
        plain();
        fill();
        fillTies();
        tidy();
        tidyOrder();
        CHECK.end("SeamTest");
    }

    private static FewEnds rows(String... rows) {
        StringBuilder text = new StringBuilder("size " + (rows[0].length() + 1) / 2 + " " + rows.length
            + ";colour a shows 1 yarn 1;colour b shows 1 yarn 1;colour c shows 1 yarn 1;");
        for (String row : rows) {
            text.append("row ").append(row).append(";");
        }
        return Check.knitted(text.toString());
    }

    private static void seam() {
        FewEnds x = rows("a b", "b a", "b b");
        int[] due = {1, 1, 3};
        for (int offset = 0; offset < 3; offset++) {
            CHECK.good(55, x, "seam(" + offset + ")", x.seam(offset), due[offset]);
        }
        CHECK.none(55, x, "seam(-1)", x.seam(-1), 1);
        CHECK.none(55, x, "seam(3)", x.seam(3), 1);
        CHECK.good(56, x, "matched()", x.matched(), 2);
        FewEnds y = rows("a c b", "b c c", "c c c", "b a b");
        // At the right b c c b, at the left a b c b.
        int[] more = {2, 2, 1, 1};
        for (int offset = 0; offset < 4; offset++) {
            CHECK.good(55, y, "seam(" + offset + ") of 4", y.seam(offset), more[offset]);
        }
        FewEnds empty = new FewEnds();
        CHECK.none(55, empty, "seam(0) without a CHART", empty.seam(0), 1);
    }

    private static void matched() {
        FewEnds x = rows("a c b", "b c c", "c c c", "b a b");
        CHECK.good(56, x, "matched(): the first of two", x.matched(), 0);
        FewEnds y = rows("a b", "b a");
        CHECK.good(56, y, "matched()", y.matched(), 1);
        FewEnds z = rows("a", "a", "a");
        CHECK.good(56, z, "matched() of all", z.matched(), 0);
        FewEnds none = rows("a b", "a b");
        CHECK.good(56, none, "matched() of none", none.matched(), 0);
        CHECK.good(55, none, "seam(0) of none", none.seam(0), 0);
        FewEnds empty = new FewEnds();
        CHECK.none(56, empty, "matched() without a CHART", empty.matched(), 6);
    }

    private static void buy() {
        FewEnds x = Check.knitted(ChartTest.THERE);
        int[] yarn = {1, 4, 5, 7, 8, 14, 15, 9999};
        int[] due = {15, 4, 3, 3, 2, 2, 1, 1};
        for (int k = 0; k < yarn.length; k++) {
            CHECK.good(57, x, "buy(0, " + yarn[k] + ")", x.buy(0, yarn[k]), due[k]);
        }
        Check.link(x, 0, 3, 3, 4, 4, 6, 6, 7);
        CHECK.good(57, x, "buy(0, 17) with LINKS", x.buy(0, 17), 2);
        CHECK.good(57, x, "buy(0, 18) with LINKS", x.buy(0, 18), 1);
        CHECK.good(57, x, "buy(1, 5)", x.buy(1, 5), 2);
        CHECK.none(57, x, "buy(0, 0)", x.buy(0, 0), 1);
        CHECK.none(57, x, "buy(0, -1)", x.buy(0, -1), 1);
        CHECK.none(57, x, "buy(0, 10000)", x.buy(0, 10000), 1);
        CHECK.none(57, x, "buy(-1, 1)", x.buy(-1, 1), 1);
        CHECK.none(57, x, "buy(2, 1)", x.buy(2, 1), 1);
        FewEnds y = Check.knitted(ChartTest.ROUND);
        CHECK.good(57, y, "buy(2, 1): no STITCHES", y.buy(2, 1), 0);
    }

    private static void runsOut() {
        FewEnds x = Check.knitted(ChartTest.THERE);
        // Without LINKS each STITCH is a THREAD: 3 for w, 2 for b.
        CHECK.good(58, x, "runsOut(3) without LINKS", x.runsOut(3), 188);
        CHECK.good(58, x, "runsOut(2) without LINKS", x.runsOut(2), 188 + 5 * 20);
        CHECK.good(58, x, "runsOut(1) without LINKS", x.runsOut(1), 188 + (10 + 3) * 20);
        Check.link(x, 0, 3, 3, 4, 4, 6, 6, 7, 1, 2, 2, 5);
        // THREADS of 18 and 6.
        int[] yarn = {18, 17, 9, 8, 6, 5, 9999};
        int[] due = {46, 66, 66, 86, 86, 46 + 80, 46};
        for (int k = 0; k < yarn.length; k++) {
            CHECK.good(58, x, "runsOut(" + yarn[k] + ")", x.runsOut(yarn[k]), due[k]);
        }
        CHECK.none(58, x, "runsOut(0)", x.runsOut(0), 1);
        CHECK.none(58, x, "runsOut(-5)", x.runsOut(-5), 1);
        CHECK.none(58, x, "runsOut(10000)", x.runsOut(10000), 1);
        FewEnds empty = new FewEnds();
        CHECK.good(58, empty, "runsOut(1) without a CHART", empty.runsOut(1), 0);
    }

    private static void links(int promise, FewEnds x, int... goes) {
        for (int i = 0; i < goes.length; i++) {
            int got = x.goes(i);
            CHECK.due(promise, "goes(" + i + ")", got, goes[i]);
        }
    }

    private static void plain() {
        FewEnds x = Check.knitted(ChartTest.THERE);
        Check.link(x, 0, 7);
        CHECK.good(59, x, "plain()", x.plain(), 63);
        links(59, x, 3, 2, -1, 4, 6, -1, 7, -1);
        FewEnds y = Check.knitted(ChartTest.ROUND);
        // 0 to 5 would be TWISTED.
        CHECK.good(59, y, "plain(), round", y.plain(), 3 * 12);
        links(59, y, -1, 2, 3, 4, -1, -1);
        // However dear.
        FewEnds z = Check.knitted("size 3 1;colour a shows 1 yarn 1;colour b shows 1 yarn 1;row a b a;"
            + "carry 1 cost 9;end 2;");
        CHECK.good(59, z, "plain() of a dear one", z.plain(), 8 + 9);
        FewEnds empty = new FewEnds();
        CHECK.good(59, empty, "plain() without a CHART", empty.plain(), 0);
    }

    private static void fill() {
        FewEnds x = Check.knitted(ChartTest.THERE);
        CHECK.good(60, x, "fill()", x.fill(), 6);
        links(60, x, 3, 2, 5, 4, 6, -1, 7, -1);
        CHECK.good(60, x, "fill() again", x.fill(), 0);
        CHECK.good(60, x, "planCost()", x.planCost(), 46);
        x.clear();
        Check.link(x, 0, 7, 1, 5);
        CHECK.good(60, x, "fill(): LINKS of the PLAN stay", x.fill(), 2);
        links(60, x, 7, 5, -1, 4, 6, -1, -1, -1);
        String cheap = ChartTest.THERE.replace("end 10", "end 1");
        FewEnds y = Check.knitted(cheap);
        // A LINK that costs 2 is not less than two ENDS.
        CHECK.good(60, y, "fill() with ENDS of 1", y.fill(), 4);
        links(60, y, -1, 2, -1, 4, 6, -1, 7, -1);
        FewEnds z = Check.knitted(ChartTest.THERE.replace("end 10", "end 0"));
        CHECK.good(60, z, "fill() with ENDS of 0", z.fill(), 0);
        FewEnds empty = new FewEnds();
        CHECK.good(60, empty, "fill() without a CHART", empty.fill(), 0);
    }

    private static void fillTies() {
        // 0 a, 1 b, 2 a; 3 b, 4 a, 5 b: 0 and 2 can both WAIT for 4.
        String text = "size 3 2;colour a shows 1 yarn 1;colour b shows 1 yarn 1;row a b a;row b a b;carry 0 cost 0;";
        FewEnds x = Check.knitted(text);
        CHECK.good(60, x, "fill(): the latest of several", x.fill(), 2);
        links(60, x, -1, 3, 4, -1, -1, -1);
        FewEnds y = Check.knitted(text);
        Check.link(y, 0, 4);
        CHECK.good(60, y, "fill(): one comes already", y.fill(), 1);
        links(60, y, 4, 3, -1, -1, -1, -1);
        // A CARRIED one from near costs more than one that WAITS from far.
        FewEnds z = Check.knitted("size 4 2;colour a shows 1 yarn 1;colour b shows 1 yarn 1;row a b b b;row a b a b;"
            + "carry 3 cost 4;wait 7 cost 1;end 9;");
        // 0 a, 1 b, 2 b, 3 b; 4 b, 5 a, 6 b, 7 a.
        CHECK.good(60, z, "fill(): the cheapest", z.fill(), 6);
        links(60, z, 5, 2, 3, 4, 6, 7, -1, -1);
    }

    private static FewEnds column(int balls, int cost) {
        return Check.knitted("size 2 4;colour a shows 0 yarn 1;colour c shows 0 yarn 1;"
            + "row a c;row a c;row a c;row a c;round;end 3;balls " + balls + " cost " + cost + ";carry 9 cost 1;");
    }

    private static void tidy() {
        FewEnds x = column(2, 5);
        Check.link(x, 0, 4, 1, 7);
        CHECK.good(61, x, "tidy()", x.tidy(), 2);
        CHECK.good(61, x, "threads(NONE)", x.threads(-1), 8);
        FewEnds y = column(3, 5);
        Check.link(y, 0, 4, 1, 5);
        CHECK.good(61, y, "tidy(): the first of two", y.tidy(), 1);
        links(61, y, -1, 5, -1, -1, -1);
        FewEnds z = column(3, 3);
        Check.link(z, 0, 4, 1, 5);
        CHECK.good(61, z, "tidy(): COST falls by 0", z.tidy(), 0);
        links(61, z, 4, 5, -1, -1);
        // A LINK dearer than two ENDS.
        FewEnds w = Check.knitted(ChartTest.ROUND);
        Check.link(w, 0, 5, 1, 2, 2, 3, 3, 4);
        CHECK.good(61, w, "tidy() of a dear one", w.tidy(), 1);
        links(61, w, -1, 2, 3, 4, -1, -1);
        CHECK.good(61, w, "tidy() again", w.tidy(), 0);
        FewEnds empty = new FewEnds();
        CHECK.good(61, empty, "tidy() without a CHART", empty.tidy(), 0);
    }

    /** The one by which COST falls most goes first, and may make others stay. */
    private static void tidyOrder() {
        FewEnds x = column(3, 5);
        // In ROW 1 hang 2, 3 and the two that are linked; in ROW 2 4, 5 and 1's.
        Check.link(x, 0, 4, 1, 7);
        // Without 0's: 6 - 3 - 5 = -2; without 1's: 6 - 5 - 5 = -4 and no TANGLE then.
        CHECK.good(61, x, "planCost() ahead of tidy()", x.planCost(), 6 * 6 + 3 + 5 + 5);
        CHECK.good(61, x, "tidy()", x.tidy(), 1);
        links(61, x, 4, -1, -1, -1);
    }
}
