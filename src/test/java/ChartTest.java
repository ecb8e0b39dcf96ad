/** Promises 13 to 19: what a CHART tells, and how THREADS may go on. */
public final class ChartTest {
    private static final Check CHECK = new Check();
    /** Knitted there and back: w b b w, then from the right w b w w. */
    static final String THERE = "size 4 2;colour w shows 2 yarn 3;colour b shows 1 yarn 2;"
        + "row w b b w;row w w b w;end 10;carry 2 cost 1;twist 2;wait 1 cost 3;strand 1;balls 2 cost 7;";
    /** Knitted round: a c c c c a. */
    static final String ROUND = "size 3 2;colour a shows 4 yarn 1;colour c shows 7 yarn 2;colour e shows 9 yarn 9;"
        + "row a c c;row c c a;round;carry 2 cost 1;twist 2;end 6;strand 3;";

    public static void main(String[] args) {
        told();
        colour();
        stitch();
        at();
        thereAndBack();
        waiting();
        round();
        twists();
        CHECK.end("ChartTest");
    }

    private static void told() {
        FewEnds x = Check.knitted("size 2 1;colour a shows 1 yarn 2;row a a;end 21;carry 22 cost 3;twist 4;"
            + "wait 5 cost 26;balls 27 cost 28;strand 29;sew 210;alter 211;round;");
        int[] told = {2, 1, 1, 21, 22, 3, 4, 5, 26, 27, 28, 29, 210, 211, 1};
        for (int what = 0; what < told.length; what++) {
            CHECK.good(13, x, "told(" + what + ")", x.told(what), told[what]);
        }
        CHECK.none(13, x, "told(-1)", x.told(-1), 1);
        CHECK.none(13, x, "told(15)", x.told(15), 1);
        FewEnds y = Check.knitted("size 1 2;colour a shows 1 yarn 2;colour b shows 1 yarn 2;row a;row a;");
        int[] without = {1, 2, 2, 10, 5, 0, 0, 3, 1, 48, 0, 1, 5, 5, 0};
        for (int what = 0; what < without.length; what++) {
            CHECK.good(13, y, "without, told(" + what + ")", y.told(what), without[what]);
        }
    }

    private static void colour() {
        FewEnds x = Check.knitted(ROUND);
        int[][] due = {{4, 1, 2}, {7, 2, 4}, {9, 9, 0}};
        for (int c = 0; c < 3; c++) {
            for (int what = 0; what < 3; what++) {
                CHECK.good(14, x, "colour(" + c + ", " + what + ")", x.colour(c, what), due[c][what]);
            }
        }
        CHECK.none(14, x, "colour(-1, 0)", x.colour(-1, 0), 1);
        CHECK.none(14, x, "colour(3, 0)", x.colour(3, 0), 1);
        CHECK.none(14, x, "colour(0, -1)", x.colour(0, -1), 1);
        CHECK.none(14, x, "colour(0, 3)", x.colour(0, 3), 1);
    }

    private static void stitch() {
        FewEnds x = Check.knitted(THERE);
        int[][] due = {{0, 0, 0}, {1, 1, 0}, {1, 2, 0}, {0, 3, 0}, {0, 3, 1}, {1, 2, 1}, {0, 1, 1}, {0, 0, 1}};
        for (int i = 0; i < due.length; i++) {
            for (int what = 0; what < 3; what++) {
                CHECK.good(15, x, "stitch(" + i + ", " + what + ")", x.stitch(i, what), due[i][what]);
            }
        }
        FewEnds y = Check.knitted(ROUND);
        for (int i = 0; i < 6; i++) {
            CHECK.good(15, y, "round, stitch(" + i + ", 1)", y.stitch(i, 1), i % 3);
            CHECK.good(15, y, "round, stitch(" + i + ", 2)", y.stitch(i, 2), i / 3);
        }
        CHECK.none(15, x, "stitch(-1, 0)", x.stitch(-1, 0), 1);
        CHECK.none(15, x, "stitch(8, 0)", x.stitch(8, 0), 1);
        CHECK.none(15, x, "stitch(0, -1)", x.stitch(0, -1), 1);
        CHECK.none(15, x, "stitch(0, 3)", x.stitch(0, 3), 1);
    }

    private static void at() {
        FewEnds x = Check.knitted("size 3 3;colour a shows 1 yarn 1;row a a a;row a a a;row a a a;");
        int[][] due = {{0, 1, 2}, {5, 4, 3}, {6, 7, 8}};
        for (int row = 0; row < 3; row++) {
            for (int place = 0; place < 3; place++) {
                CHECK.good(16, x, "at(" + place + ", " + row + ")", x.at(place, row), due[row][place]);
            }
        }
        CHECK.none(16, x, "at(-1, 0)", x.at(-1, 0), 1);
        CHECK.none(16, x, "at(3, 0)", x.at(3, 0), 1);
        CHECK.none(16, x, "at(0, -1)", x.at(0, -1), 1);
        CHECK.none(16, x, "at(0, 3)", x.at(0, 3), 1);
        FewEnds y = Check.knitted(ROUND);
        CHECK.good(16, y, "round, at(0, 1)", y.at(0, 1), 3);
        CHECK.good(16, y, "round, at(2, 1)", y.at(2, 1), 5);
    }

    private static void way(FewEnds x, int i, int j, int way, int cost, int yarn) {
        String couple = "(" + i + ", " + j + ")";
        CHECK.good(17, x, "lawful" + couple, x.lawful(i, j), way);
        if (way == 0) {
            CHECK.none(18, x, "cost" + couple, x.cost(i, j), 7);
            CHECK.none(19, x, "yarnOf" + couple, x.yarnOf(i, j), 7);
        } else {
            CHECK.good(18, x, "cost" + couple, x.cost(i, j), cost);
            CHECK.good(19, x, "yarnOf" + couple, x.yarnOf(i, j), yarn);
        }
    }

    private static void noCouple(FewEnds x, int i, int j) {
        String couple = "(" + i + ", " + j + ")";
        CHECK.none(17, x, "lawful" + couple, x.lawful(i, j), 1);
        CHECK.none(18, x, "cost" + couple, x.cost(i, j), 1);
        CHECK.none(19, x, "yarnOf" + couple, x.yarnOf(i, j), 1);
    }

    private static void thereAndBack() {
        FewEnds x = Check.knitted(THERE);
        way(x, 0, 3, 2, 2, 2);
        way(x, 1, 2, 1, 0, 0);
        way(x, 3, 4, 1, 0, 0);
        way(x, 4, 6, 2, 1, 1);
        way(x, 2, 5, 4, 3, 0);
        way(x, 1, 5, 4, 3, 1);
        way(x, 0, 4, 0, 0, 0);
        way(x, 0, 6, 4, 3, 1);
        way(x, 0, 7, 4, 3, 0);
        way(x, 3, 6, 0, 0, 0);
        way(x, 0, 1, 0, 0, 0);
        way(x, 3, 5, 0, 0, 0);
        noCouple(x, 3, 3);
        noCouple(x, 4, 3);
        noCouple(x, -1, 3);
        noCouple(x, 3, 8);
        noCouple(x, Integer.MIN_VALUE, Integer.MAX_VALUE);
    }

    private static void waiting() {
        // Two ROWS on there is no way, however near; one ROW on WAIT goes by places, not by STITCHES between.
        FewEnds x = Check.knitted("size 3 3;colour a shows 1 yarn 1;colour b shows 1 yarn 1;"
            + "row a b a;row b b b;row a b a;carry 47 cost 1;twist 1;wait 7 cost 9;strand 2;");
        way(x, 0, 6, 0, 0, 0);
        way(x, 2, 6, 0, 0, 0);
        way(x, 1, 3, 4, 9, 2);
        way(x, 1, 4, 4, 9, 0);
        way(x, 1, 5, 4, 9, 2);
        way(x, 1, 7, 0, 0, 0);
        FewEnds y = Check.knitted("size 3 2;colour a shows 1 yarn 1;colour b shows 1 yarn 1;"
            + "row a b b;row a a a;wait 0 cost 0;strand 0;");
        way(y, 0, 5, 4, 0, 0);
        way(y, 0, 4, 0, 0, 0);
        // At the turn a STITCH is NEXT to the one behind it.
        FewEnds z = Check.knitted("size 1 3;colour a shows 1 yarn 1;colour b shows 1 yarn 1;"
            + "row a;row a;row b;wait 0 cost 5;");
        way(z, 0, 1, 1, 0, 0);
    }

    private static void round() {
        FewEnds x = Check.knitted(ROUND);
        way(x, 0, 5, 3, 4 + 7 + 7, 12);
        way(x, 1, 2, 1, 0, 0);
        way(x, 2, 3, 1, 0, 0);
        way(x, 1, 3, 2, 1, 3);
        way(x, 1, 4, 2, 2, 6);
        way(x, 0, 4, 0, 0, 0);
        // All round over several ROWS; the WAIT counts for nothing.
        FewEnds y = Check.knitted("size 1 6;colour a shows 1 yarn 1;colour b shows 1 yarn 1;"
            + "row a;row b;row b;row b;row b;row a;round;carry 4 cost 9;wait 7 cost 1;strand 99;");
        way(y, 0, 5, 2, 36, 396);
        FewEnds z = Check.knitted("size 1 6;colour a shows 1 yarn 1;colour b shows 1 yarn 1;"
            + "row a;row b;row b;row b;row b;row a;round;carry 3 cost 9;wait 7 cost 1;");
        way(z, 0, 5, 0, 0, 0);
    }

    /** TWISTED from 0 over b c d e to 5, at every so manieth. */
    private static void twists() {
        int[] due = {2 + 3 + 5 + 8, 3 + 8, 5, 8, 0, 0, 0, 0, 0};
        for (int twist = 1; twist <= 9; twist++) {
            for (int cost = 0; cost < 3; cost++) {
                FewEnds x = Check.knitted("size 6 1;colour a shows 1 yarn 1;colour b shows 2 yarn 1;"
                    + "colour c shows 3 yarn 1;colour d shows 5 yarn 1;colour e shows 8 yarn 1;"
                    + "row a b c d e a;carry 3 cost " + cost + ";strand 2;twist " + twist + ";");
                way(x, 0, 5, 3, 4 * cost + due[twist - 1], 8);
            }
        }
        FewEnds x = Check.knitted("size 4 1;colour a shows 1 yarn 1;colour b shows 2 yarn 1;"
            + "row a b b a;carry 0 cost 2;twist 1;");
        way(x, 0, 3, 3, 4 + 4, 2);
        // Never, told or not: what is beyond CARRY can't be.
        for (String never : new String[] {"", "twist 0;"}) {
            FewEnds y = Check.knitted("size 4 1;colour a shows 1 yarn 1;colour b shows 2 yarn 1;"
                + "row a b b a;carry 1 cost 2;" + never);
            CHECK.good(13, y, "told(6), never", y.told(6), 0);
            way(y, 0, 3, 0, 0, 0);
            way(y, 1, 2, 1, 0, 0);
            FewEnds z = Check.knitted("size 4 1;colour a shows 1 yarn 1;colour b shows 2 yarn 1;"
                + "row a b b a;carry 2 cost 2;" + never);
            way(z, 0, 3, 2, 4, 2);
        }
    }
}
