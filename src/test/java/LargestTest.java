/** The largest CHART there can be, 48 STITCHES, in each promise that goes over all of them; and a small one behind it. */
public final class LargestTest {
    private static final Check CHECK = new Check();
    private static final String HEAD = "size 8 6;colour a shows 1 yarn 1;colour b shows 1 yarn 1;";
    // There and back: a 0 to 3, b to 11, a to 19, b to 27, a to 35, b to 43, a to 47.
    private static final String HALVES = HEAD + "row a a a a b b b b;".repeat(6) + "wait 0 cost 1;";
    private static final String STEPS = "knit a 4;loop 2;knit b 8;knit a 8;end;knit b 8;knit a 4;";

    public static void main(String[] args) {
        FewEnds x = Check.knitted(HALVES);
        plans(x);
        yarns(x);
        least(x);
        pictures(x);
        directions(x);
        smaller(x);
        CHECK.end("LargestTest");
    }

    private static void plans(FewEnds x) {
        CHECK.good(30, x, "planCost() without LINKS", x.planCost(), 48 * 20);
        CHECK.good(59, x, "plain(): 7 THREADS", x.plain(), 7 * 20);
        CHECK.good(26, x, "threads(NONE)", x.threads(-1), 7);
        CHECK.good(27, x, "thread(6, 2)", x.thread(6, 2), 47);
        CHECK.good(60, x, "fill(): they WAIT", x.fill(), 5);
        CHECK.good(30, x, "planCost() when FILLED", x.planCost(), 45);
        CHECK.good(61, x, "tidy()", x.tidy(), 0);
        CHECK.good(31, x, "longest()", x.longest(), 0);
        CHECK.good(50, x, "thickest()", x.thickest(), 0);
        for (int row = 0; row < 6; row++) {
            CHECK.good(28, x, "hangs(" + row + ")", x.hangs(row), 2);
        }
    }

    private static void yarns(FewEnds x) {
        CHECK.good(32, x, "yarn(0)", x.yarn(0), 24);
        CHECK.good(53, x, "lasts(0, 23)", x.lasts(0, 23), 47);
        CHECK.none(53, x, "lasts(0, 24)", x.lasts(0, 24), 6);
        CHECK.good(57, x, "buy(0, 5)", x.buy(0, 5), 5);
        CHECK.good(58, x, "runsOut(5)", x.runsOut(5), 45 + 8 * 20);
    }

    private static void least(FewEnds x) {
        CHECK.good(33, x, "least(NONE)", x.least(-1), 45);
        CHECK.good(35, x, "gap()", x.gap(), 0);
        CHECK.good(37, x, "rowAlone(5)", x.rowAlone(5), 1);
        CHECK.good(38, x, "other()", x.other(), 40);
        CHECK.good(40, x, "best(0)", x.best(0), -5);
        CHECK.good(40, x, "best(1)", x.best(1), 0);
        CHECK.good(40, x, "best(2)", x.best(2), 1);
        CHECK.good(41, x, "few(4)", x.few(4), 0);
        CHECK.good(43, x, "sewn()", x.sewn(), 0);
        CHECK.good(44, x, "sewnCost()", x.sewnCost(), 45);
    }

    private static void pictures(FewEnds x) {
        CHECK.good(14, x, "colour(1, 2)", x.colour(1, 2), 24);
        CHECK.good(45, x, "patches(NONE)", x.patches(-1), 2);
        int[][] due = {{0, 0}, {4, 4}, {43, 4}, {47, 0}};
        for (int[] couple : due) {
            int i = couple[0];
            CHECK.good(46, x, "patch(" + i + ", 0)", x.patch(i, 0), 24);
            CHECK.good(46, x, "patch(" + i + ", 1)", x.patch(i, 1), couple[1]);
            CHECK.good(46, x, "patch(" + i + ", 2)", x.patch(i, 2), 6);
        }
        CHECK.good(47, x, "machine(1)", x.machine(1), 6);
        CHECK.good(48, x, "lessened(5, 1)", x.lessened(5, 1), 4);
        CHECK.good(51, x, "mirrored()", x.mirrored(), 24);
        CHECK.good(52, x, "mirrorLeast()", x.mirrorLeast(), 20);
        CHECK.good(54, x, "window(0, 7, 0, 5): all", x.window(0, 7, 0, 5), 45);
        CHECK.good(54, x, "window(4, 7, 0, 5)", x.window(4, 7, 0, 5), 20);
        CHECK.good(55, x, "seam(5)", x.seam(5), 0);
        CHECK.good(56, x, "matched()", x.matched(), 0);
    }

    private static void directions(FewEnds x) {
        CHECK.good(11, x, "directions", Check.directions(x, STEPS), 6);
        CHECK.good(62, x, "follow()", x.follow(), 0);
        int[] due = {48, 2, 45, 8};
        for (int what = 0; what < 4; what++) {
            CHECK.good(63, x, "followed(" + what + ")", x.followed(what), due[what]);
        }
        CHECK.good(22, x, "clear()", x.clear());
        CHECK.good(64, x, "take()", x.take());
        CHECK.good(30, x, "planCost() of what was TAKEN", x.planCost(), 45);
        CHECK.good(11, x, "one STITCH more", Check.directions(x, STEPS + "knit a 1;"), 7);
        CHECK.good(62, x, "follow() where there is none any more", x.follow(), 4);
        CHECK.good(65, x, "mark()", x.mark(), 1);
    }

    /** Of the CHART ahead nothing is left in a smaller one, and all of it comes back. */
    private static void smaller(FewEnds x) {
        CHECK.good(10, x, "a small CHART", Check.chart(x, "size 1 1;colour c shows 1 yarn 1;row c;"), 1);
        CHECK.good(30, x, "planCost() of one STITCH", x.planCost(), 20);
        CHECK.good(33, x, "least(NONE) of one STITCH", x.least(-1), 20);
        CHECK.good(34, x, "fewest(NONE) of one STITCH", x.fewest(-1), 1);
        CHECK.good(31, x, "longest() of one STITCH", x.longest(), 0);
        CHECK.good(59, x, "plain() of one STITCH", x.plain(), 20);
        CHECK.good(60, x, "fill() of one STITCH", x.fill(), 0);
        CHECK.good(44, x, "sewnCost() of one STITCH", x.sewnCost(), 20);
        CHECK.good(45, x, "patches(NONE) of one STITCH", x.patches(-1), 1);
        CHECK.none(53, x, "lasts(0, 1) of one STITCH", x.lasts(0, 1), 6);
        CHECK.none(15, x, "stitch(1, 0) of one STITCH", x.stitch(1, 0), 1);
        CHECK.good(66, x, "back()", x.back(), 0);
        CHECK.good(30, x, "planCost() is back", x.planCost(), 45);
        CHECK.good(62, x, "follow() is back", x.follow(), 4);
        CHECK.good(15, x, "stitch(47, 0) is back", x.stitch(47, 0), 0);
    }
}
