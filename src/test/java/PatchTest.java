/** Promises 45 to 54: patches, machines, mirrors. */
public final class PatchTest {
    private static final Check CHECK = new Check();
    private static final String FOUR = "colour a shows 1 yarn 1;colour b shows 1 yarn 1;colour c shows 1 yarn 1;"
        + "colour d shows 1 yarn 1;";

    public static void main(String[] args) {
        patches();
        edges();
        patch();
        machine();
        behind();
        mirrored();
        lasts();
        window();
        windowTurns();
        CHECK.end("PatchTest");
    }

    private static void patches() {
        FewEnds x = Check.knitted(ChartTest.ROUND);
        CHECK.good(45, x, "patches(0)", x.patches(0), 2);
        CHECK.good(45, x, "patches(1)", x.patches(1), 1);
        CHECK.good(45, x, "patches(2): no STITCHES", x.patches(2), 0);
        CHECK.good(45, x, "patches(NONE)", x.patches(-1), 3);
        CHECK.none(45, x, "patches(3)", x.patches(3), 1);
        CHECK.none(45, x, "patches(-2)", x.patches(-2), 1);
        FewEnds y = Check.knitted(ChartTest.THERE);
        CHECK.good(45, y, "patches(NONE), there and back", y.patches(-1), 3);
        FewEnds empty = new FewEnds();
        CHECK.good(45, empty, "patches(NONE) without a CHART", empty.patches(-1), 0);
    }

    private static void edges() {
        FewEnds there = Check.knitted("size 3 1;" + FOUR + "row a b a;");
        CHECK.good(45, there, "patches(NONE), there and back", there.patches(-1), 3);
        FewEnds round = Check.knitted("size 3 1;" + FOUR + "row a b a;round;");
        CHECK.good(45, round, "patches(NONE), round", round.patches(-1), 2);
        CHECK.good(46, round, "patch(2, 1), round", round.patch(2, 1), 0);
        CHECK.good(46, round, "patch(2, 0), round", round.patch(2, 0), 2);
        // The last place of a ROW and the first of the next one do not hang together, nor the first and last ROW.
        FewEnds rows = Check.knitted("size 2 3;" + FOUR + "row a b;row b c;row a b;");
        CHECK.good(45, rows, "patches(NONE), one by one", rows.patches(-1), 6);
        FewEnds turned = Check.knitted("size 2 3;" + FOUR + "row a b;row c a;row a b;round;");
        CHECK.good(45, turned, "patches(NONE), one by one, round", turned.patches(-1), 6);
        FewEnds narrow = Check.knitted("size 1 2;" + FOUR + "row a;row a;round;");
        CHECK.good(45, narrow, "patches(NONE) of one place", narrow.patches(-1), 1);
    }

    private static void patch() {
        FewEnds x = Check.knitted(ChartTest.ROUND);
        for (int i = 1; i < 5; i++) {
            CHECK.good(46, x, "patch(" + i + ", 0)", x.patch(i, 0), 4);
            CHECK.good(46, x, "patch(" + i + ", 1)", x.patch(i, 1), 1);
            CHECK.good(46, x, "patch(" + i + ", 2)", x.patch(i, 2), 2);
        }
        CHECK.good(46, x, "patch(0, 0)", x.patch(0, 0), 1);
        CHECK.good(46, x, "patch(0, 1)", x.patch(0, 1), 0);
        CHECK.good(46, x, "patch(0, 2)", x.patch(0, 2), 1);
        CHECK.good(46, x, "patch(5, 0)", x.patch(5, 0), 1);
        CHECK.good(46, x, "patch(5, 1)", x.patch(5, 1), 5);
        CHECK.good(46, x, "patch(5, 2)", x.patch(5, 2), 1);
        CHECK.none(46, x, "patch(-1, 0)", x.patch(-1, 0), 1);
        CHECK.none(46, x, "patch(6, 0)", x.patch(6, 0), 1);
        CHECK.none(46, x, "patch(0, -1)", x.patch(0, -1), 1);
        CHECK.none(46, x, "patch(0, 3)", x.patch(0, 3), 1);
        // A long way from the least STITCH to the last one.
        FewEnds y = Check.knitted("size 5 5;" + FOUR + "row a a a a a;row b b b b a;row a a a b a;row a b b b a;"
            + "row a a a a a;");
        for (int i : new int[] {0, 5, 10, 12, 24}) {
            CHECK.good(46, y, "winding, patch(" + i + ", 0)", y.patch(i, 0), 17);
            CHECK.good(46, y, "winding, patch(" + i + ", 1)", y.patch(i, 1), 0);
            CHECK.good(46, y, "winding, patch(" + i + ", 2)", y.patch(i, 2), 5);
        }
        CHECK.good(46, y, "winding, patch(6, 0)", y.patch(6, 0), 8);
        CHECK.good(46, y, "winding, patch(6, 1)", y.patch(6, 1), 6);
        CHECK.good(46, y, "winding, patch(6, 2)", y.patch(6, 2), 3);
    }

    private static void machine() {
        FewEnds x = Check.knitted("size 6 3;" + FOUR + "row a b c d a a;row c c c c c c;row b d b d d b;");
        int[] due = {2, 1, 1, 0, 0};
        int[][] lessened = {{3, 2, 1, 0, 0}, {0, 0, 0, 0, 0}, {3, 0, 0, 0, 0}};
        for (int n = 1; n <= 5; n++) {
            CHECK.good(47, x, "machine(" + n + ")", x.machine(n), due[n - 1]);
            for (int row = 0; row < 3; row++) {
                CHECK.good(48, x, "lessened(" + row + ", " + n + ")", x.lessened(row, n), lessened[row][n - 1]);
            }
        }
        CHECK.none(47, x, "machine(0)", x.machine(0), 1);
        CHECK.none(47, x, "machine(6)", x.machine(6), 1);
        CHECK.none(48, x, "lessened(0, 0)", x.lessened(0, 0), 1);
        CHECK.none(48, x, "lessened(0, 6)", x.lessened(0, 6), 1);
        CHECK.none(48, x, "lessened(-1, 1)", x.lessened(-1, 1), 1);
        CHECK.none(48, x, "lessened(3, 1)", x.lessened(3, 1), 1);
        FewEnds first = Check.knitted("size 3 1;" + FOUR + "row a b b;");
        CHECK.good(47, first, "machine(1): the first STITCH alone", first.machine(1), 1);
        CHECK.good(48, first, "lessened(0, 1): the first STITCH alone", first.lessened(0, 1), 1);
        FewEnds empty = new FewEnds();
        CHECK.good(47, empty, "machine(1) without a CHART", empty.machine(1), 0);
    }

    private static void behind() {
        FewEnds x = Check.knitted(ChartTest.ROUND);
        CHECK.good(50, x, "thickest() without LINKS", x.thickest(), 0);
        Check.link(x, 0, 5, 1, 3, 3, 4);
        int[] due = {0, 1, 2, 1, 1, 0};
        for (int i = 0; i < 6; i++) {
            CHECK.good(49, x, "behind(" + i + ")", x.behind(i), due[i]);
        }
        CHECK.good(50, x, "thickest()", x.thickest(), 2);
        CHECK.none(49, x, "behind(-1)", x.behind(-1), 1);
        CHECK.none(49, x, "behind(6)", x.behind(6), 1);
        FewEnds y = Check.knitted(ChartTest.THERE);
        Check.link(y, 0, 7, 1, 5);
        CHECK.good(49, y, "behind(3): those WAIT", y.behind(3), 0);
        CHECK.good(50, y, "thickest(): those WAIT", y.thickest(), 0);
        FewEnds empty = new FewEnds();
        CHECK.good(50, empty, "thickest() without a CHART", empty.thickest(), 0);
    }

    private static void mirrored() {
        FewEnds x = Check.knitted("size 5 2;" + FOUR + "row a b c d a;row a b c a b;end 10;carry 0 cost 0;wait 0 cost 1;");
        CHECK.good(51, x, "mirrored()", x.mirrored(), 1 + 2);
        // a b c b a twice, carried nowhere: 0 1 2 3 4, 5 6 7 8 9; 4 is NEXT to 5, the others WAIT at their place.
        CHECK.good(52, x, "mirrorLeast()", x.mirrorLeast(), 5 * 20 + 4);
        CHECK.good(51, x, "stitch(3, 0) stays", x.stitch(3, 0), 3);
        CHECK.good(51, x, "mirrored() again", x.mirrored(), 3);
        FewEnds y = Check.knitted("size 4 1;" + FOUR + "row a b c d;carry 0 cost 0;");
        CHECK.good(51, y, "mirrored() of 4", y.mirrored(), 2);
        CHECK.good(52, y, "mirrorLeast() of 4", y.mirrorLeast(), 20 + 20 + 20);
        // Whatever was asked ahead of it.
        FewEnds first = Check.knitted("size 4 1;" + FOUR + "row a b c d;carry 0 cost 0;");
        CHECK.good(54, first, "window(0, 0, 0, 0) of 4", first.window(0, 0, 0, 0), 20);
        CHECK.good(52, first, "mirrorLeast() behind window()", first.mirrorLeast(), 20 + 20 + 20);
        FewEnds z = Check.knitted("size 1 1;" + FOUR + "row b;");
        CHECK.good(51, z, "mirrored() of 1", z.mirrored(), 0);
        CHECK.good(52, z, "mirrorLeast() of 1", z.mirrorLeast(), 20);
        FewEnds empty = new FewEnds();
        CHECK.good(51, empty, "mirrored() without a CHART", empty.mirrored(), 0);
        CHECK.good(52, empty, "mirrorLeast() without a CHART", empty.mirrorLeast(), 0);
    }

    private static void lasts() {
        FewEnds x = Check.knitted(ChartTest.THERE);
        // w: 0, 3, 4, 6, 7, each 3.
        int[] yarn = {0, 2, 3, 5, 6, 8, 9, 11, 12, 14};
        int[] due = {0, 0, 3, 3, 4, 4, 6, 6, 7, 7};
        for (int k = 0; k < yarn.length; k++) {
            CHECK.good(53, x, "lasts(0, " + yarn[k] + ")", x.lasts(0, yarn[k]), due[k]);
        }
        CHECK.none(53, x, "lasts(0, 15)", x.lasts(0, 15), 6);
        Check.link(x, 0, 3, 1, 5);
        CHECK.good(53, x, "lasts(0, 3) with a LINK", x.lasts(0, 3), 3);
        CHECK.good(53, x, "lasts(0, 7) with a LINK", x.lasts(0, 7), 3);
        CHECK.good(53, x, "lasts(0, 8) with a LINK", x.lasts(0, 8), 4);
        CHECK.good(53, x, "lasts(0, 16) with a LINK", x.lasts(0, 16), 7);
        CHECK.none(53, x, "lasts(0, 17) with a LINK", x.lasts(0, 17), 6);
        CHECK.good(53, x, "lasts(1, 6): one WAITS", x.lasts(1, 6), 5);
        CHECK.none(53, x, "lasts(1, 7)", x.lasts(1, 7), 6);
        CHECK.none(53, x, "lasts(0, 9999)", x.lasts(0, 9999), 6);
        CHECK.none(53, x, "lasts(0, 10000)", x.lasts(0, 10000), 1);
        CHECK.none(53, x, "lasts(0, -1)", x.lasts(0, -1), 1);
        CHECK.none(53, x, "lasts(2, 0)", x.lasts(2, 0), 1);
        CHECK.none(53, x, "lasts(-1, 0)", x.lasts(-1, 0), 1);
        FewEnds y = Check.knitted(ChartTest.ROUND);
        CHECK.none(53, y, "lasts(2, 0): no STITCHES", y.lasts(2, 0), 6);
    }

    private static void window() {
        FewEnds x = Check.knitted(ChartTest.THERE);
        CHECK.good(54, x, "window(0, 3, 0, 1): all", x.window(0, 3, 0, 1), 46);
        CHECK.good(54, x, "window(0, 3, 1, 1)", x.window(0, 3, 1, 1), 20 + 1 + 20);
        CHECK.good(54, x, "window(1, 2, 0, 1)", x.window(1, 2, 0, 1), 40);
        CHECK.good(54, x, "window(0, 0, 0, 0)", x.window(0, 0, 0, 0), 20);
        CHECK.good(54, x, "window(0, 0, 0, 1)", x.window(0, 0, 0, 1), 20);
        CHECK.good(54, x, "window(3, 3, 1, 1)", x.window(3, 3, 1, 1), 20);
        CHECK.good(54, x, "told(0) stays", x.told(0), 4);
        CHECK.good(54, x, "least(NONE) stays", x.least(-1), 46);
        CHECK.none(54, x, "window(-1, 0, 0, 0)", x.window(-1, 0, 0, 0), 1);
        CHECK.none(54, x, "window(0, 4, 0, 0)", x.window(0, 4, 0, 0), 1);
        CHECK.none(54, x, "window(2, 1, 0, 0)", x.window(2, 1, 0, 0), 1);
        CHECK.none(54, x, "window(4, 4, 0, 0)", x.window(4, 4, 0, 0), 1);
        CHECK.none(54, x, "window(0, 0, -1, 0)", x.window(0, 0, -1, 0), 1);
        CHECK.none(54, x, "window(0, 0, 0, 2)", x.window(0, 0, 0, 2), 1);
        CHECK.none(54, x, "window(0, 0, 1, 0)", x.window(0, 0, 1, 0), 1);
        CHECK.none(54, x, "window(0, 0, 2, 2)", x.window(0, 0, 2, 2), 1);
        FewEnds empty = new FewEnds();
        CHECK.none(54, empty, "window(0, 0, 0, 0) without a CHART", empty.window(0, 0, 0, 0), 1);
    }

    /** The first ROW of a WINDOW is knitted from the left, whichever it was. */
    private static void windowTurns() {
        FewEnds x = Check.knitted("size 3 3;" + FOUR + "row d d d;row a b c;row b d c;carry 0 cost 0;wait 0 cost 1;");
        // a b c, then from the right c d b: c is NEXT; b WAITS not: places 1 and 0.
        CHECK.good(54, x, "window(0, 2, 1, 2)", x.window(0, 2, 1, 2), 5 * 20);
        FewEnds y = Check.knitted("size 2 3;" + FOUR + "row d d;row a b;row a b;round;carry 1 cost 1;end 5;");
        CHECK.good(54, y, "window(0, 1, 1, 2), round", y.window(0, 1, 1, 2), 10 + 1 + 10 + 1);
        CHECK.good(54, y, "window(1, 1, 0, 2), round", y.window(1, 1, 0, 2), 20);
    }
}
