/** Promises 20 to 32: LINKS, PLANS, THREADS, what they cost and take. */
public final class PlanTest {
    private static final Check CHECK = new Check();

    public static void main(String[] args) {
        link();
        unlink();
        clear();
        plan();
        planWrong();
        planOrder();
        threads();
        thread();
        hangs();
        tangle();
        planCost();
        longest();
        yarn();
        CHECK.end("PlanTest");
    }

    private static FewEnds there() {
        return Check.knitted(ChartTest.THERE);
    }

    private static void goesTo(int promise, FewEnds x, int i, int j) {
        if (j == -1) {
            CHECK.none(promise, x, "goes(" + i + ")", x.goes(i), 6);
        } else {
            CHECK.good(promise, x, "goes(" + i + ")", x.goes(i), j);
            CHECK.good(promise, x, "comes(" + j + ")", x.comes(j), i);
        }
    }

    private static void link() {
        FewEnds x = there();
        CHECK.good(20, x, "link(0, 6)", x.link(0, 6));
        goesTo(20, x, 0, 6);
        CHECK.refused(20, x, "link(0, 3): one goes already", x.link(0, 3), 7);
        CHECK.refused(20, x, "link(4, 6): one comes already", x.link(4, 6), 7);
        CHECK.refused(20, x, "link(0, 6) again", x.link(0, 6), 7);
        CHECK.refused(20, x, "link(3, 6): no such", x.link(3, 6), 7);
        CHECK.refused(20, x, "link(0, 1): unlike COLOURS", x.link(0, 1), 7);
        CHECK.refused(20, x, "link(-1, 1)", x.link(-1, 1), 1);
        CHECK.refused(20, x, "link(1, 8)", x.link(1, 8), 1);
        CHECK.refused(20, x, "link(2, 2)", x.link(2, 2), 1);
        CHECK.refused(20, x, "link(2, 1)", x.link(2, 1), 1);
        CHECK.good(20, x, "link(6, 7) behind it", x.link(6, 7));
        CHECK.good(20, x, "link(3, 4)", x.link(3, 4));
        CHECK.good(20, x, "threads(NONE)", x.threads(-1), 5);
        CHECK.none(24, x, "goes(-1)", x.goes(-1), 1);
        CHECK.none(24, x, "goes(8)", x.goes(8), 1);
        CHECK.none(24, x, "goes(7)", x.goes(7), 6);
        CHECK.none(25, x, "comes(-1)", x.comes(-1), 1);
        CHECK.none(25, x, "comes(8)", x.comes(8), 1);
        CHECK.none(25, x, "comes(0)", x.comes(0), 6);
        CHECK.good(24, x, "goes(3)", x.goes(3), 4);
        CHECK.good(25, x, "comes(4)", x.comes(4), 3);
    }

    private static void unlink() {
        FewEnds x = there();
        Check.link(x, 0, 3, 3, 4);
        CHECK.refused(21, x, "unlink(-1)", x.unlink(-1), 1);
        CHECK.refused(21, x, "unlink(8)", x.unlink(8), 1);
        CHECK.refused(21, x, "unlink(4)", x.unlink(4), 6);
        CHECK.good(21, x, "unlink(0)", x.unlink(0));
        goesTo(21, x, 0, -1);
        goesTo(21, x, 3, 4);
        CHECK.none(21, x, "comes(3)", x.comes(3), 6);
        CHECK.refused(21, x, "unlink(0) again", x.unlink(0), 6);
        CHECK.good(21, x, "link(0, 3) again", x.link(0, 3));
    }

    private static void clear() {
        FewEnds x = there();
        Check.link(x, 0, 3, 1, 2);
        CHECK.good(22, x, "clear()", x.clear());
        CHECK.good(22, x, "threads(NONE)", x.threads(-1), 8);
        goesTo(22, x, 0, -1);
        CHECK.good(22, x, "clear() of none", x.clear());
        CHECK.good(22, x, "clear() without a CHART", new FewEnds().clear());
    }

    private static void tray(FewEnds x, int tray, int sort, long... numbers) {
        x.tray(tray, sort, numbers.length);
        for (int k = 0; k < numbers.length; k++) {
            x.write(tray, k, numbers[k]);
        }
    }

    private static void plan() {
        for (int sort = 0; sort < 4; sort++) {
            FewEnds x = there();
            Check.link(x, 0, 6);
            tray(x, sort, sort, 4, 6, 0, 3, 3, 4, 77);
            CHECK.good(23, x, "plan(" + sort + ", 3)", x.plan(sort, 3));
            goesTo(23, x, 0, 3);
            goesTo(23, x, 3, 4);
            goesTo(23, x, 4, 6);
            CHECK.good(23, x, "threads(NONE)", x.threads(-1), 5);
            CHECK.good(23, x, "plan(" + sort + ", 1)", x.plan(sort, 1));
            CHECK.good(23, x, "threads(NONE)", x.threads(-1), 7);
            CHECK.good(23, x, "plan(" + sort + ", 0)", x.plan(sort, 0));
            CHECK.good(23, x, "threads(NONE)", x.threads(-1), 8);
        }
        FewEnds x = new FewEnds();
        x.tray(0, 0, 0);
        CHECK.good(23, x, "plan(0, 0) without a CHART", x.plan(0, 0));
        thirty();
    }

    /** As many couples as can be: THREADS along a CHART of one COLOUR. */
    private static void thirty() {
        StringBuilder text = new StringBuilder("size 8 6;colour w shows 1 yarn 1;");
        for (int row = 0; row < 6; row++) {
            text.append("row w w w w w w w w;");
        }
        FewEnds x = Check.knitted(text.toString());
        long[] couples = new long[60];
        for (int k = 0; k < 30; k++) {
            couples[2 * k] = k + 17;
            couples[2 * k + 1] = k + 18;
        }
        tray(x, 1, 0, couples);
        CHECK.good(23, x, "plan(1, 30)", x.plan(1, 30));
        CHECK.good(23, x, "threads(NONE)", x.threads(-1), 18);
        goesTo(23, x, 46, 47);
        CHECK.refused(23, x, "plan(1, 31)", x.plan(1, 31), 1);
    }

    private static void planWrong() {
        FewEnds x = there();
        Check.link(x, 1, 2);
        tray(x, 0, 1, 0, 3, 0, 7);
        tray(x, 1, 1, 0, 6, 4, 6);
        tray(x, 2, 1, 3, 6);
        CHECK.refused(23, x, "plan(-1, 1)", x.plan(-1, 1), 1);
        CHECK.refused(23, x, "plan(4, 1)", x.plan(4, 1), 1);
        CHECK.refused(23, x, "plan(0, -1)", x.plan(0, -1), 1);
        CHECK.refused(23, x, "plan(3, 99)", x.plan(3, 99), 1);
        CHECK.refused(23, x, "plan(3, 1)", x.plan(3, 1), 2);
        CHECK.refused(23, x, "plan(3, 0)", x.plan(3, 0), 2);
        CHECK.refused(23, x, "plan(0, 3)", x.plan(0, 3), 3);
        CHECK.refused(23, x, "plan(0, 2): one goes already", x.plan(0, 2), 7);
        CHECK.refused(23, x, "plan(1, 2): one comes already", x.plan(1, 2), 7);
        CHECK.refused(23, x, "plan(2, 1): one can't be", x.plan(2, 1), 7);
        goesTo(23, x, 1, 2);
        goesTo(23, x, 0, -1);
        CHECK.good(23, x, "plan(0, 1)", x.plan(0, 1));
        goesTo(23, x, 1, -1);
    }

    private static void planOrder() {
        FewEnds x = there();
        long[][] wrong = {{-1, 3}, {3, 8}, {3, 3}, {4, 3}, {8, 9}, {0, 1L << 32 | 3}, {1L << 32, 3},
            {Long.MIN_VALUE, Long.MAX_VALUE}};
        for (long[] couple : wrong) {
            // First comes a LINK that can't be: a number that can't be is told ahead of that.
            tray(x, 0, 3, 0, 1, couple[0], couple[1]);
            CHECK.refused(23, x, "plan() with " + couple[0] + " " + couple[1], x.plan(0, 2), 5);
            CHECK.refused(23, x, "plan() without it", x.plan(0, 1), 7);
            tray(x, 0, 3, couple[0], couple[1], 0, 3);
            CHECK.refused(23, x, "plan() with it first", x.plan(0, 2), 5);
        }
        tray(x, 0, 0, 0, 99, 1);
        CHECK.refused(23, x, "plan(0, 2): too few ahead of wrong ones", x.plan(0, 2), 3);
    }

    private static void threads() {
        FewEnds x = there();
        Check.link(x, 0, 3, 4, 6, 1, 2);
        CHECK.good(26, x, "threads(NONE)", x.threads(-1), 5);
        CHECK.good(26, x, "threads(0)", x.threads(0), 3);
        CHECK.good(26, x, "threads(1)", x.threads(1), 2);
        CHECK.none(26, x, "threads(2)", x.threads(2), 1);
        CHECK.none(26, x, "threads(-2)", x.threads(-2), 1);
        FewEnds empty = new FewEnds();
        CHECK.none(26, empty, "threads(0) without a CHART", empty.threads(0), 1);
        CHECK.good(26, empty, "threads(NONE) without a CHART", empty.threads(-1), 0);
    }

    private static void thread() {
        FewEnds x = there();
        Check.link(x, 0, 3, 3, 4, 4, 6, 2, 5);
        int[][] due = {{0, 0, 6, 4, 12 + 2 + 0 + 1}, {1, 1, 1, 1, 2}, {1, 2, 5, 2, 4}, {0, 7, 7, 1, 3}};
        for (int t = 0; t < due.length; t++) {
            for (int what = 0; what < 5; what++) {
                CHECK.good(27, x, "thread(" + t + ", " + what + ")", x.thread(t, what), due[t][what]);
            }
        }
        CHECK.none(27, x, "thread(-1, 0)", x.thread(-1, 0), 1);
        CHECK.none(27, x, "thread(4, 0)", x.thread(4, 0), 1);
        CHECK.none(27, x, "thread(0, -1)", x.thread(0, -1), 1);
        CHECK.none(27, x, "thread(0, 5)", x.thread(0, 5), 1);
        CHECK.none(27, x, "thread(" + Integer.MIN_VALUE + ", 0)", x.thread(Integer.MIN_VALUE, 0), 1);
    }

    /** Round, a column of a's at the left, c's else. */
    private static FewEnds column() {
        return Check.knitted("size 2 4;colour a shows 0 yarn 1;colour c shows 0 yarn 1;"
            + "row a c;row a c;row a c;row a c;round;end 3;balls 2 cost 5;carry 9 cost 1;");
    }

    private static void hangs() {
        FewEnds x = column();
        Check.link(x, 0, 4);
        int[] due = {2, 3, 2, 2};
        for (int row = 0; row < 4; row++) {
            CHECK.good(28, x, "hangs(" + row + ")", x.hangs(row), due[row]);
        }
        Check.link(x, 1, 7);
        int[] more = {2, 4, 3, 2};
        for (int row = 0; row < 4; row++) {
            CHECK.good(28, x, "hangs(" + row + ") with 1 to 7", x.hangs(row), more[row]);
        }
        CHECK.none(28, x, "hangs(-1)", x.hangs(-1), 1);
        CHECK.none(28, x, "hangs(4)", x.hangs(4), 1);
        FewEnds y = there();
        CHECK.good(28, y, "hangs(0) without LINKS", y.hangs(0), 4);
        Check.link(y, 0, 3, 1, 2, 4, 6, 6, 7);
        CHECK.good(28, y, "hangs(0)", y.hangs(0), 2);
        CHECK.good(28, y, "hangs(1)", y.hangs(1), 2);
    }

    private static void tangle() {
        FewEnds x = column();
        Check.link(x, 0, 4, 1, 7);
        int[] due = {0, 10, 5, 0};
        for (int row = 0; row < 4; row++) {
            CHECK.good(29, x, "tangle(" + row + ")", x.tangle(row), due[row]);
        }
        CHECK.none(29, x, "tangle(-1)", x.tangle(-1), 1);
        CHECK.none(29, x, "tangle(4)", x.tangle(4), 1);
        // Fewer THREADS than BALLS cost nothing less.
        FewEnds y = Check.knitted("size 1 1;colour a shows 0 yarn 1;row a;end 0;balls 3 cost 99;");
        CHECK.good(29, y, "tangle(0) of one", y.tangle(0), 0);
    }

    private static void planCost() {
        FewEnds x = column();
        CHECK.good(30, x, "planCost() without LINKS", x.planCost(), 8 * 6);
        Check.link(x, 0, 4);
        CHECK.good(30, x, "planCost() with 0 to 4", x.planCost(), 7 * 6 + 3 + 5);
        Check.link(x, 1, 7);
        CHECK.good(30, x, "planCost() with 1 to 7", x.planCost(), 6 * 6 + 3 + 5 + 15);
        FewEnds y = there();
        CHECK.good(30, y, "planCost()", y.planCost(), 188);
        Check.link(y, 0, 3, 3, 4, 4, 6, 6, 7, 1, 2, 2, 5);
        CHECK.good(30, y, "planCost()", y.planCost(), 46);
    }

    private static void longest() {
        FewEnds x = there();
        CHECK.good(31, x, "longest() without LINKS", x.longest(), 0);
        Check.link(x, 3, 4, 0, 7);
        CHECK.good(31, x, "longest(): WAITS and NEXT do not count", x.longest(), 0);
        Check.link(x, 4, 6);
        CHECK.good(31, x, "longest()", x.longest(), 1);
        x.unlink(0);
        Check.link(x, 0, 3);
        CHECK.good(31, x, "longest()", x.longest(), 2);
        FewEnds y = Check.knitted(ChartTest.ROUND);
        Check.link(y, 0, 5, 1, 3);
        CHECK.good(31, y, "longest(), TWISTED", y.longest(), 4);
    }

    private static void yarn() {
        FewEnds x = there();
        CHECK.good(32, x, "yarn(0)", x.yarn(0), 15);
        CHECK.good(32, x, "yarn(1)", x.yarn(1), 6);
        Check.link(x, 0, 3, 3, 4, 4, 6, 1, 5);
        CHECK.good(32, x, "yarn(0)", x.yarn(0), 15 + 2 + 1);
        CHECK.good(32, x, "yarn(1): one WAITS", x.yarn(1), 6 + 1);
        CHECK.none(32, x, "yarn(-1)", x.yarn(-1), 1);
        CHECK.none(32, x, "yarn(2)", x.yarn(2), 1);
        FewEnds y = Check.knitted(ChartTest.ROUND);
        Check.link(y, 0, 5, 1, 3, 3, 4);
        CHECK.good(32, y, "yarn(0), TWISTED", y.yarn(0), 2 + 12);
        CHECK.good(32, y, "yarn(1)", y.yarn(1), 8 + 3);
        CHECK.good(32, y, "yarn(2): no STITCHES", y.yarn(2), 0);
    }
}
