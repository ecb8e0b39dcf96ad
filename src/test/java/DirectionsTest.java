/** Promises 62 to 66: DIRECTIONS that are FOLLOWED and TAKEN, MARKS. */
public final class DirectionsTest {
    private static final Check CHECK = new Check();
    private static final int WELL = 0;
    private static final int SHORT = 1;
    private static final int WRONG = 2;
    private static final int BROKEN = 3;
    private static final int LONG = 4;
    private static final int LEFT = 5;

    public static void main(String[] args) {
        follow();
        cuts();
        loops();
        left();
        followed();
        take();
        mark();
        markKeeps();
        back();
        backLeaves();
        CHECK.end("DirectionsTest");
    }

    /** FOLLOWED on an object as it is; what came of it. */
    private static void follows(FewEnds x, String text, int outcome, int... told) {
        if (Check.directions(x, text) == -1) {
            throw new IllegalStateException("FAULT " + x.fault(0) + " at " + x.fault(1) + " of " + text);
        }
        CHECK.good(62, x, "follow() of " + text, x.follow(), outcome);
        for (int what = 0; what < 4; what++) {
            CHECK.good(63, x, "followed(" + what + ") of " + text, x.followed(what), told[what]);
        }
    }

    private static final String ALL = "knit w 1;knit b 2;knit w 2;knit b 1;knit w 2;";

    private static void follow() {
        FewEnds x = Check.knitted(ChartTest.THERE);
        follows(x, ALL, WELL, 8, 2, 46, 5);
        follows(x, "knit w 1;knit b 2;knit w 2;knit b 1;knit w 1;", SHORT, 7, 2, 46, 5);
        follows(x, "knit w 1;knit b 2;", SHORT, 3, 2, 40, 2);
        follows(x, "", SHORT, 0, 0, 0, 0);
        follows(x, ALL + "knit w 1;", LONG, 8, 2, 46, 6);
        follows(x, ALL + "knit b 48;", LONG, 8, 2, 46, 6);
        follows(x, "knit w 1;knit b 2;knit w 2;knit b 1;knit w 48;", LONG, 8, 2, 46, 5);
        follows(x, "knit w 2;knit b 1;", WRONG, 1, 1, 20, 1);
        follows(x, "knit b 1;", WRONG, 0, 0, 0, 1);
        follows(x, "knit w 1;knit b 3;", WRONG, 3, 2, 40, 2);
        follows(x, ALL + "cut w;cut b;", WELL, 8, 2, 46, 7);
        // The PLAN has nothing to do with it.
        Check.link(x, 0, 6);
        follows(x, ALL, WELL, 8, 2, 46, 5);
        CHECK.good(62, x, "goes(0) stays", x.goes(0), 6);
        FewEnds y = Check.knitted(ChartTest.THERE.replace("carry 2", "carry 1").replace("twist 2;", ""));
        follows(y, ALL, BROKEN, 3, 2, 40, 3);
        FewEnds z = Check.knitted(ChartTest.THERE.replace("carry 2", "carry 1"));
        // 0 to 3 TWISTED over b b: 2 and what the second b shows.
        follows(z, ALL, WELL, 8, 2, 47, 5);
        FewEnds empty = new FewEnds();
        CHECK.none(62, empty, "follow() without DIRECTIONS", empty.follow(), 6);
        follows(empty, "loop 3;loop 2;end;end;", WELL, 0, 0, 0, 4);
    }

    private static void cuts() {
        FewEnds x = Check.knitted(ChartTest.THERE.replace("carry 2", "carry 1").replace("twist 2;", ""));
        follows(x, "knit w 1;cut w;knit b 2;knit w 2;knit b 1;knit w 2;", WELL, 8, 3, 60 + 3 + 1, 6);
        follows(x, "cut w;cut b;knit w 1;knit b 1;cut b;cut b;knit b 1;cut w;knit w 2;knit b 1;knit w 2;", WELL,
            8, 4, 80 + 3 + 1, 11);
        // A ball that is cut after the last STITCH is not taken anew.
        follows(x, "knit w 1;cut w;knit b 2;cut b;", SHORT, 3, 2, 40, 4);
        // Cut, and nothing is knitted with a new one.
        follows(x, "knit w 1;cut w;knit w 1;", WRONG, 1, 1, 20, 3);
    }

    private static void loops() {
        FewEnds x = Check.knitted("size 4 2;colour a shows 1 yarn 1;colour b shows 1 yarn 1;row a b a b;row a b a b;"
            + "round;carry 1 cost 2;end 5;");
        int price = 20 + 2 * 3 * 2;
        follows(x, "loop 4;knit a 1;knit b 1;end;", WELL, 8, 2, price, 9);
        follows(x, "loop 2;loop 2;knit a 1;knit b 1;end;end;", WELL, 8, 2, price, 1 + 2 * (1 + 2 * 2));
        follows(x, "loop 2;loop 1;loop 2;knit a 1;knit b 1;end;end;end;", WELL, 8, 2, price, 1 + 2 * (1 + 1 + 4));
        follows(x, "loop 1;knit a 1;end;loop 3;knit b 1;knit a 1;end;knit b 1;", WELL, 8, 2, price, 2 + 7 + 1);
        follows(x, "loop 3;knit a 1;knit b 1;end;", SHORT, 6, 2, 20 + 8, 7);
        follows(x, "loop 5;knit a 1;knit b 1;end;", LONG, 8, 2, price, 10);
        follows(x, "loop 4;knit a 1;cut a;knit b 1;end;", WELL, 8, 5, 50 + 6, 13);
        follows(x, "loop 2;loop 2;end;knit a 1;loop 3;end;knit b 1;end;", SHORT, 4, 2, 20 + 4, 1 + 2 * 4);
    }

    private static String cuts(int many) {
        StringBuilder text = new StringBuilder();
        for (int k = 0; k < many; k++) {
            text.append("cut w;");
        }
        return text.toString();
    }

    private static void left() {
        FewEnds x = Check.knitted(ChartTest.THERE);
        follows(x, "loop 48;loop 48;cut w;end;end;", LEFT, 0, 0, 0, 300);
        follows(x, "loop 48;loop 48;loop 48;end;end;end;", LEFT, 0, 0, 0, 300);
        // 1 + 13 * 23 are 300: one more is too many, an end is not.
        follows(x, "loop 13;" + cuts(23) + "end;", SHORT, 0, 0, 0, 300);
        follows(x, "loop 13;" + cuts(23) + "end;cut w;", LEFT, 0, 0, 0, 300);
        follows(x, "loop 13;" + cuts(23) + "end;knit w 1;", LEFT, 0, 0, 0, 300);
        follows(x, "loop 13;" + cuts(23) + "end;loop 1;end;", LEFT, 0, 0, 0, 300);
        follows(x, "loop 13;" + cuts(22) + "loop 48;end;end;", SHORT, 0, 0, 0, 300);
        follows(x, "knit w 1;loop 13;" + cuts(22) + "end;" + cuts(11) + "knit b 1;", SHORT, 2, 2, 40,
            2 + 13 * 22 + 12 - 0);
        follows(x, "knit w 1;loop 13;" + cuts(22) + "end;" + cuts(12) + "knit b 1;", LEFT, 1, 1, 20, 300);
    }

    private static void followed() {
        FewEnds x = Check.knitted(ChartTest.THERE);
        CHECK.none(63, x, "followed(0): there was none", x.followed(0), 6);
        CHECK.none(63, x, "followed(-1): there was none", x.followed(-1), 1);
        CHECK.none(63, x, "followed(4): there was none", x.followed(4), 1);
        x.follow();
        CHECK.none(63, x, "followed(0): follow() had another STATUS", x.followed(0), 6);
        follows(x, "knit w 1;knit b 2;", SHORT, 3, 2, 40, 2);
        CHECK.none(63, x, "followed(-1)", x.followed(-1), 1);
        CHECK.none(63, x, "followed(4)", x.followed(4), 1);
        Check.chart(x, ChartTest.ROUND);
        CHECK.none(62, x, "follow() on another CHART", x.follow(), 6);
        CHECK.good(63, x, "followed(0) as it was", x.followed(0), 3);
        CHECK.good(63, x, "followed(3) as it was", x.followed(3), 2);
    }

    private static void links(int promise, FewEnds x, int... goes) {
        for (int i = 0; i < goes.length; i++) {
            int got = x.goes(i);
            CHECK.due(promise, "goes(" + i + ")", got, goes[i]);
        }
    }

    private static void take() {
        FewEnds x = Check.knitted(ChartTest.THERE);
        CHECK.refused(64, x, "take(): nothing was FOLLOWED", x.take(), 6);
        Check.directions(x, ALL);
        CHECK.refused(64, x, "take(): only read", x.take(), 6);
        x.follow();
        Check.link(x, 0, 6);
        CHECK.good(64, x, "take()", x.take());
        links(64, x, 3, 2, 5, 4, 6, -1, 7, -1);
        CHECK.good(64, x, "gap()", x.gap(), 0);
        x.clear();
        CHECK.good(64, x, "take() again", x.take());
        links(64, x, 3, 2, 5, 4, 6, -1, 7, -1);
        // What was knitted ahead of the fault.
        Check.directions(x, "knit w 1;knit b 2;cut b;knit w 3;");
        CHECK.good(64, x, "take() of what was FOLLOWED, not read", x.take());
        links(64, x, 3, 2, 5, 4, 6, -1, 7, -1);
        x.follow();
        CHECK.good(64, x, "take() of some", x.take());
        links(64, x, 3, 2, -1, 4, -1, -1, -1, -1);
        Check.chart(x, "size 1 1;");
        CHECK.good(64, x, "take() behind a chart with a FAULT", x.take());
        Check.chart(x, ChartTest.THERE);
        CHECK.refused(64, x, "take() behind another CHART", x.take(), 6);
        x.follow();
        CHECK.refused(64, x, "take() behind follow() with another STATUS", x.take(), 6);
        Check.directions(x, ALL);
        x.mark();
        x.follow();
        CHECK.good(64, x, "take() behind mark()", x.take());
        x.back();
        CHECK.refused(64, x, "take() behind back()", x.take(), 6);
        x.follow();
        x.back();
        CHECK.good(64, x, "take() behind back() with another STATUS", x.take());
    }

    private static void mark() {
        FewEnds x = new FewEnds();
        for (int many = 1; many <= 3; many++) {
            CHECK.good(65, x, "mark() for the " + many + "th time", x.mark(), many);
        }
        CHECK.none(65, x, "mark() for the 4th time", x.mark(), 4);
        for (int many = 2; many >= 0; many--) {
            CHECK.good(66, x, "back() to " + many, x.back(), many);
        }
        CHECK.none(66, x, "back() without MARKS", x.back(), 6);
        CHECK.good(65, x, "mark() again", x.mark(), 1);
    }

    private static void markKeeps() {
        FewEnds x = Check.knitted(ChartTest.THERE);
        x.mark();
        Check.link(x, 0, 3);
        x.mark();
        Check.directions(x, ALL);
        Check.link(x, 1, 2);
        x.mark();
        Check.chart(x, ChartTest.ROUND);
        Check.link(x, 1, 3);
        CHECK.none(65, x, "mark() too many changes nothing", x.mark(), 4);
        CHECK.good(66, x, "back() to the third", x.back(), 2);
        CHECK.good(66, x, "told(14)", x.told(14), 0);
        CHECK.good(66, x, "stitch(4, 1)", x.stitch(4, 1), 3);
        CHECK.good(66, x, "least(NONE)", x.least(-1), 46);
        links(66, x, 3, 2, -1, -1, -1, -1, -1, -1);
        CHECK.good(66, x, "follow()", x.follow(), WELL);
        CHECK.good(66, x, "back() to the second", x.back(), 1);
        links(66, x, 3, -1, -1, -1);
        CHECK.none(66, x, "follow(): no DIRECTIONS there", x.follow(), 6);
        CHECK.good(66, x, "back() to the first", x.back(), 0);
        links(66, x, -1, -1, -1, -1);
        CHECK.none(66, x, "back() once more", x.back(), 6);
    }

    private static void back() {
        // To a CHART of no STITCHES, and what is reckoned is that of the CHART that is there.
        FewEnds x = new FewEnds();
        x.mark();
        Check.chart(x, "size 2 1;colour a shows 1 yarn 1;colour b shows 1 yarn 1;row a b;alter 0;");
        CHECK.good(66, x, "few(4)", x.few(4), 1);
        CHECK.good(66, x, "best(0)", x.best(0), 20);
        x.mark();
        Check.chart(x, "size 2 1;colour a shows 1 yarn 1;colour b shows 1 yarn 1;row a b;alter 7;");
        CHECK.good(66, x, "best(0) of another CHART", x.best(0), 13);
        x.back();
        CHECK.good(66, x, "best(0) behind back()", x.best(0), 20);
        x.back();
        CHECK.good(66, x, "told(0) of none", x.told(0), 0);
        CHECK.good(66, x, "told(2) of none", x.told(2), 0);
        CHECK.none(66, x, "best(0) of none", x.best(0), 6);
        CHECK.none(66, x, "stitch(0, 0) of none", x.stitch(0, 0), 1);
        CHECK.good(66, x, "fewAt(0, 0) stays", x.fewAt(0, 0), 0);
    }

    /** TRAYS, the tape, the FRACTION, the FAULT and what was FOLLOWED are not kept. */
    private static void backLeaves() {
        FewEnds x = Check.knitted(ChartTest.THERE);
        x.tray(0, 3, 1);
        x.mark();
        x.write(0, 0, 5);
        x.worth();
        Check.directions(x, ALL);
        x.follow();
        Check.chart(x, "size 0");
        x.feed(0, 0, 0, 0, 0);
        x.back();
        CHECK.good(66, x, "read(0, 0) stays", x.read(0, 0), 5);
        CHECK.due(66, "top() stays", x.top(), 23);
        CHECK.due(66, "bottom() stays", x.bottom(), 94);
        CHECK.due(66, "fault(0) stays", x.fault(0), 4);
        CHECK.due(66, "fault(1) stays", x.fault(1), 5);
        CHECK.good(66, x, "followed(0) stays", x.followed(0), 8);
        CHECK.due(66, "feed(): the tape stays", x.feed(0, 0, 0, 0, 0), 40);
    }
}
