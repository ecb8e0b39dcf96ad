/** Edges of STITCHES, of how a THREAD goes on, of LINKS and PLANS: promises 13 to 32. */
public final class StitchEdgeTest {
    private static final Edges EDGES = new Edges();
    private static final String AB = "colour a shows 1 yarn 1;colour b shows 2 yarn 3;";

    public static void main(String[] args) {
        told();
        colourOf();
        numberedThereAndBack();
        numberedRound();
        stitchOf();
        ways();
        next();
        nextOverTheTurn();
        carried();
        carriedAllRound();
        oneRowOrRound();
        waits();
        waitsFromTheRight();
        waitsToTheNextRow();
        otherColours();
        costOfNext();
        costOfCarried();
        costOfTwisted();
        costOfWaits();
        yarnOfLinks();
        oneComesOneGoes();
        linkEnds();
        noneFirst();
        unlink();
        planByTray();
        planNumbers();
        planTooFew();
        threads();
        threadsInOrder();
        ends();
        hangs();
        tangle();
        costOfPlan();
        longest();
        yarnOfColour();
        EDGES.end("StitchEdgeTest");
    }

    // ---- what the tests share

    private static FewEnds rows(int width, String behind, String... rows) {
        StringBuilder text = new StringBuilder("size " + width + " " + rows.length + ";" + AB);
        for (String row : rows) {
            text.append("row ").append(String.join(" ", row.split(""))).append(";");
        }
        return Check.knitted(text + behind);
    }

    /** 48 STITCHES, the first and the last of COLOUR a, the others b, knitted round. */
    private static FewEnds farApart(String behind) {
        return rows(8, "round;" + behind, "abbbbbbb", "bbbbbbbb", "bbbbbbbb", "bbbbbbbb", "bbbbbbbb", "bbbbbbba");
    }

    private static void way(FewEnds x, int i, int j, int due) {
        EDGES.good(x, "lawful(" + i + ", " + j + ")", x.lawful(i, j), due);
    }

    private static void tray(FewEnds x, int tray, int sort, long... numbers) {
        x.tray(tray, sort, numbers.length);
        for (int k = 0; k < numbers.length; k++) {
            x.write(tray, k, numbers[k]);
        }
    }

    // ---- what a CHART tells

    private static void told() {
        EDGES.says(13, "Width (what 0), height (1), how many COLOURS (2), END (3), CARRY (4), its cost (5), TWIST (6), "
            + "WAIT (7), its cost (8), BALLS (9), their cost (10), STRAND (11), SEW (12), ALTER (13), "
            + "1 if ROUND, else 0 (14) (1).");
        FewEnds x = rows(4, "end 21;carry 22 cost 3;twist 4;wait 5 cost 26;balls 27 cost 28;strand 29;sew 210;"
            + "alter 211;round;", "abab", "abab", "abab");
        EDGES.row(x, "told", x::told, 4, 3, 2, 21, 22, 3, 4, 5, 26, 27, 28, 29, 210, 211, 1);
        EDGES.none(x, "told(-1)", x.told(-1), 1);
        EDGES.none(x, "told(15)", x.told(15), 1);
    }

    private static void colourOf() {
        EDGES.says(14, "Of a COLOUR, what 0: SHOWS, 1: YARN by stitch, 2: how many STITCHES (1).");
        FewEnds x = rows(8, "", "aaaaaaaa", "aaaaaaaa", "aaaaaaaa", "aaaaaaaa", "aaaaaaaa", "aaaaaaaa");
        EDGES.row(x, "colour(0, ..)", what -> x.colour(0, what), 1, 1, 48);
        EDGES.row(x, "colour(1, ..)", what -> x.colour(1, what), 2, 3, 0);
        EDGES.none(x, "colour(0, 3)", x.colour(0, 3), 1);
        EDGES.none(x, "colour(2, 0)", x.colour(2, 0), 1);
        EDGES.none(x, "colour(-1, 0)", x.colour(-1, 0), 1);
        EDGES.none(x, "colour(0, -1)", x.colour(0, -1), 1);
    }

    /** In a CHART of 8 by 6 each place's STITCH, and that STITCH's place and ROW. */
    private static void numbered(FewEnds x, boolean isRound) {
        for (int row = 0; row < 6; row++) {
            for (int place = 0; place < 8; place++) {
                int due = row * 8 + (isRound || row % 2 == 0 ? place : 7 - place);
                EDGES.good(x, "at(" + place + ", " + row + ")", x.at(place, row), due);
                EDGES.good(x, "stitch(" + due + ", 1)", x.stitch(due, 1), place);
                EDGES.good(x, "stitch(" + due + ", 2)", x.stitch(due, 2), row);
            }
        }
    }

    private static void numberedThereAndBack() {
        EDGES.says(16, "there and back ROWS 0, 2, 4 from the left, the others from the right.");
        String all = "aaaaaaaa";
        numbered(rows(8, "", all, all, all, all, all, all), false);
        FewEnds narrow = rows(1, "", "a", "b", "a");
        EDGES.row(narrow, "at(0, ..)", row -> narrow.at(0, row), 0, 1, 2);
        FewEnds x = rows(3, "", "aab", "aab", "aab");
        EDGES.row(x, "stitch(i, 0)", i -> x.stitch(i, 0), 0, 0, 1, 1, 0, 0, 0, 0, 1);
        EDGES.says(16, "The STITCH at a place from the left in a ROW (1).");
        EDGES.good(x, "at(0, 0): the first place of the first ROW", x.at(0, 0), 0);
        EDGES.good(x, "at(2, 2): the last place of the last ROW", x.at(2, 2), 8);
        EDGES.none(x, "at(3, 0)", x.at(3, 0), 1);
        EDGES.none(x, "at(-1, 0)", x.at(-1, 0), 1);
        EDGES.none(x, "at(0, 3)", x.at(0, 3), 1);
        EDGES.none(x, "at(0, -1)", x.at(0, -1), 1);
    }

    private static void numberedRound() {
        EDGES.says(15, "ROW by ROW; round each ROW from the left");
        String all = "bbbbbbbb";
        numbered(rows(8, "round;", all, all, all, all, all, all), true);
        FewEnds x = rows(3, "round;", "aab", "aab", "aab");
        EDGES.row(x, "stitch(i, 0)", i -> x.stitch(i, 0), 0, 0, 1, 0, 0, 1, 0, 0, 1);
    }

    private static void stitchOf() {
        EDGES.says(15, "Of a STITCH, what 0: COLOUR, 1: place from the left, 2: ROW (1).");
        FewEnds x = rows(3, "", "aab", "baa");
        EDGES.row(x, "stitch(0, ..)", what -> x.stitch(0, what), 0, 0, 0);
        EDGES.row(x, "stitch(2, ..)", what -> x.stitch(2, what), 1, 2, 0);
        EDGES.row(x, "stitch(3, ..)", what -> x.stitch(3, what), 0, 2, 1);
        EDGES.row(x, "stitch(5, ..)", what -> x.stitch(5, what), 1, 0, 1);
        EDGES.none(x, "stitch(6, 0)", x.stitch(6, 0), 1);
        EDGES.none(x, "stitch(-1, 0)", x.stitch(-1, 0), 1);
        EDGES.none(x, "stitch(0, 3)", x.stitch(0, 3), 1);
        EDGES.none(x, "stitch(0, -1)", x.stitch(0, -1), 1);
    }

    // ---- how a THREAD may go on

    private static void ways() {
        EDGES.says(17, "How a THREAD may go on from a STITCH to another one: 0 to 4 (1: the second not later;");
        FewEnds x = rows(6, "carry 1 cost 0;twist 1;wait 0 cost 1;", "aababb", "babbba");
        // ROW 1 from the right: 6 a, 7 b, 8 b, 9 b, 10 a, 11 b.
        way(x, 0, 2, 0);
        way(x, 0, 1, 1);
        way(x, 1, 3, 2);
        way(x, 6, 10, 3);
        way(x, 1, 10, 4);
        EDGES.none(x, "lawful(1, 1)", x.lawful(1, 1), 1);
        EDGES.none(x, "lawful(1, 0)", x.lawful(1, 0), 1);
    }

    private static void next() {
        EDGES.says(17, "NEXT (1), if d is 0");
        for (String how : new String[] {"", "round;"}) {
            FewEnds x = rows(4, how + "carry 0 cost 0;wait 0 cost 1;", "aaba");
            way(x, 0, 1, 1);
            way(x, 1, 3, 0);
            way(x, 0, 3, 0);
        }
    }

    private static void nextOverTheTurn() {
        EDGES.says(17, "NEXT (1), if d is 0; else, round, or in one ROW");
        FewEnds x = rows(2, "carry 0 cost 0;wait 0 cost 1;", "ba", "ba", "aa");
        way(x, 1, 2, 1);
        way(x, 0, 3, 4);
        FewEnds y = rows(2, "carry 0 cost 0;wait 0 cost 1;round;", "ba", "ab", "bb");
        way(y, 1, 2, 1);
        way(y, 3, 4, 1);
        way(y, 0, 3, 0);
        FewEnds narrow = rows(1, "carry 0 cost 0;wait 0 cost 1;", "a", "a", "b");
        way(narrow, 0, 1, 1);
    }

    private static void carried() {
        EDGES.says(17, "Between STITCH i and a later one j of its COLOUR there are so many STITCHES, d.");
        FewEnds apart = rows(8, "carry 47 cost 1;", "aabaabba");
        int[][] due = {{0, 1, 0}, {1, 3, 1}, {0, 3, 2}, {4, 7, 2}, {0, 7, 6}};
        for (int[] d : due) {
            EDGES.good(apart, "cost(" + d[0] + ", " + d[1] + ")", apart.cost(d[0], d[1]), d[2]);
        }
        EDGES.says(17, "CARRIED (2), if d is at most CARRY; TWISTED (3), if it is more and TWIST is not 0");
        for (int d = 1; d <= 6; d++) {
            String row = "a" + "b".repeat(d) + "a" + "b".repeat(6 - d);
            for (int carry = d - 1; carry <= d + 1; carry++) {
                boolean far = d > carry;
                for (String how : new String[] {"", "round;"}) {
                    String told = how + "carry " + carry + " cost 1;";
                    way(rows(8, told, row), 0, d + 1, far ? 0 : 2);
                    way(rows(8, told + "twist 0;", row), 0, d + 1, far ? 0 : 2);
                    way(rows(8, told + "twist 1;", row), 0, d + 1, far ? 3 : 2);
                    way(rows(8, told + "twist 9;", row), 0, d + 1, far ? 3 : 2);
                }
            }
        }
        EDGES.says(17, "CARRY (0 to 47; 5 without) at most so many");
        way(rows(8, "", "abbbbbab"), 0, 6, 2);
        way(rows(8, "", "abbbbbba"), 0, 7, 0);
    }

    private static void carriedAllRound() {
        EDGES.says(17, "CARRY (0 to 47; 5 without) at most so many");
        way(farApart("carry 47 cost 0;"), 0, 47, 2);
        way(farApart("carry 46 cost 0;"), 0, 47, 2);
        way(farApart("carry 45 cost 0;"), 0, 47, 0);
        way(farApart("carry 45 cost 0;twist 9;"), 0, 47, 3);
        way(farApart("carry 45 cost 0;wait 7 cost 0;"), 0, 47, 0);
    }

    private static void oneRowOrRound() {
        EDGES.says(17, "else, round, or in one ROW: CARRIED (2)");
        // There and back 2 and 4 are of two ROWS, with one STITCH between them.
        FewEnds x = rows(3, "carry 9 cost 1;twist 1;wait 1 cost 1;", "aba", "bab");
        way(x, 0, 2, 2);
        way(x, 2, 4, 4);
        FewEnds y = rows(3, "carry 9 cost 1;twist 1;wait 0 cost 1;", "aba", "bab");
        way(y, 2, 4, 0);
        FewEnds z = rows(3, "carry 9 cost 1;wait 0 cost 1;round;", "aba", "bab");
        way(z, 2, 4, 2);
        way(z, 0, 4, 2);
    }

    private static void waits() {
        EDGES.says(17, "it WAITS (4), if their places from the left differ by at most WAIT; else it can't (0)");
        for (int apart = 0; apart <= 7; apart++) {
            int goal = 15 - apart;
            for (int wait = Math.max(0, apart - 1); wait <= Math.min(7, apart + 1); wait++) {
                FewEnds x = rows(8, "carry 47 cost 0;twist 1;wait " + wait + " cost 1;", "abbbbbbb", "aaaaaaaa");
                way(x, 0, goal, apart <= wait ? 4 : 0);
            }
        }
        EDGES.says(17, "WAIT: within so many (0 to 7; 3 without)");
        FewEnds x = rows(8, "", "abbbbbbb", "aaaaaaaa");
        way(x, 0, 15, 4);
        way(x, 0, 12, 4);
        way(x, 0, 11, 0);
    }

    private static void waitsFromTheRight() {
        EDGES.says(17, "if their places from the left differ by at most WAIT");
        // 8 is the last place of ROW 1, 16 and on are ROW 2 from the left.
        for (int place = 0; place <= 7; place++) {
            int apart = 7 - place;
            for (int wait = Math.max(0, apart - 1); wait <= Math.min(7, apart + 1); wait++) {
                FewEnds x = rows(8, "wait " + wait + " cost 1;", "bbbbbbbb", "bbbbbbba", "aaaaaaaa");
                way(x, 8, 16 + place, apart <= wait ? 4 : 0);
            }
        }
    }

    private static void waitsToTheNextRow() {
        EDGES.says(17, "there and back, from one ROW to the next one");
        FewEnds x = rows(1, "carry 47 cost 0;twist 1;wait 7 cost 0;", "a", "b", "a");
        way(x, 0, 2, 0);
        FewEnds y = rows(2, "carry 47 cost 0;twist 1;wait 7 cost 0;", "ab", "ab", "ab", "ab", "ab", "ab");
        way(y, 0, 3, 4);
        way(y, 0, 4, 0);
        way(y, 0, 11, 0);
        way(y, 9, 10, 1);
        way(y, 8, 11, 4);
        way(y, 7, 11, 0);
        FewEnds round = rows(1, "carry 0 cost 0;wait 7 cost 0;round;", "a", "b", "a");
        way(round, 0, 2, 0);
    }

    private static void otherColours() {
        EDGES.says(17, "(1: the second not later; 0 also of unlike COLOURS)");
        FewEnds x = rows(2, "", "ab", "ab");
        way(x, 0, 1, 0);
        way(x, 0, 2, 0);
        way(x, 0, 3, 4);
        int[][] wrong = {{1, 1}, {1, 0}, {0, 0}, {3, 3}, {-1, 0}, {-1, 3}, {0, 4}, {3, 4}, {4, 5},
            {Integer.MIN_VALUE, Integer.MAX_VALUE}};
        for (int[] couple : wrong) {
            int i = couple[0];
            int j = couple[1];
            EDGES.none(x, "lawful(" + i + ", " + j + ")", x.lawful(i, j), 1);
            EDGES.none(x, "cost(" + i + ", " + j + ")", x.cost(i, j), 1);
            EDGES.none(x, "yarnOf(" + i + ", " + j + ")", x.yarnOf(i, j), 1);
            EDGES.refused(x, "link(" + i + ", " + j + ")", x.link(i, j), 1);
        }
        EDGES.says(18, "What that LINK costs (1; 7: it can't be).");
        EDGES.none(x, "cost(0, 1)", x.cost(0, 1), 7);
        EDGES.good(x, "cost(0, 3)", x.cost(0, 3), 1);
        EDGES.says(19, "Its YARN (1; 7).");
        EDGES.none(x, "yarnOf(0, 1)", x.yarnOf(0, 1), 7);
        EDGES.good(x, "yarnOf(0, 3)", x.yarnOf(0, 3), 0);
    }

    // ---- what a LINK costs and takes

    private static void costOfNext() {
        EDGES.says(18, "A LINK costs: NEXT nothing");
        FewEnds x = rows(2, "carry 47 cost 9;twist 1;wait 7 cost 99;strand 99;", "ba", "aa");
        EDGES.good(x, "cost(1, 2) over the turn", x.cost(1, 2), 0);
        EDGES.good(x, "cost(2, 3)", x.cost(2, 3), 0);
        EDGES.says(19, "if it WAITS; else 0.");
        EDGES.good(x, "yarnOf(1, 2) over the turn", x.yarnOf(1, 2), 0);
        EDGES.good(x, "yarnOf(2, 3)", x.yarnOf(2, 3), 0);
    }

    private static void costOfCarried() {
        EDGES.says(18, "CARRIED d times the cost of CARRY");
        for (int cost : new int[] {0, 1, 9}) {
            FewEnds x = rows(8, "carry 6 cost " + cost + ";twist 1;", "abbbbbba");
            EDGES.good(x, "cost(0, 7) at " + cost, x.cost(0, 7), 6 * cost);
            FewEnds y = farApart("carry 46 cost " + cost + ";twist 1;");
            EDGES.good(y, "cost(0, 47) at " + cost, y.cost(0, 47), 46 * cost);
        }
    }

    private static void costOfTwisted() {
        EDGES.says(18, "TWISTED that, and SHOWS of the COLOURS of the TWIST-th STITCH behind i, of that twice so far behind, "
            + "and so on, up to d");
        String five = "size 8 1;colour a shows 9 yarn 1;colour b shows 1 yarn 1;colour c shows 2 yarn 1;"
            + "colour d shows 4 yarn 1;colour e shows 8 yarn 1;row a b c d e b c a;";
        // 6 STITCHES between; the seventh is the one to which it goes.
        int[] due = {18, 2 + 8 + 2, 4 + 2, 8, 1, 2, 0, 0, 0};
        for (int twist = 1; twist <= 9; twist++) {
            FewEnds x = Check.knitted(five + "carry 5 cost 0;twist " + twist + ";");
            EDGES.good(x, "cost(0, 7) at every " + twist, x.cost(0, 7), due[twist - 1]);
            FewEnds y = Check.knitted(five + "carry 0 cost 3;twist " + twist + ";");
            EDGES.good(y, "cost(0, 7) at every " + twist + ", and 3 each", y.cost(0, 7), 18 + due[twist - 1]);
        }
        // It need not begin with STITCH 0: 2 b, 3 b, 4 b behind 1.
        FewEnds x = rows(6, "carry 2 cost 0;twist 3;", "babbba");
        EDGES.good(x, "cost(1, 5)", x.cost(1, 5), 2);
        // Behind a's of COLOUR 0 each twist costs what they show.
        FewEnds first = rows(4, "carry 0 cost 0;twist 1;", "baab");
        EDGES.good(first, "cost(0, 3) over COLOUR 0", first.cost(0, 3), 2);
        FewEnds y = farApart("carry 45 cost 9;twist 1;");
        EDGES.good(y, "cost(0, 47)", y.cost(0, 47), 46 * 9 + 46 * 2);
        FewEnds z = farApart("carry 45 cost 9;twist 9;");
        EDGES.good(z, "cost(0, 47) at every 9", z.cost(0, 47), 46 * 9 + 5 * 2);
    }

    private static void costOfWaits() {
        EDGES.says(18, "and so on, up to d; WAITS its cost.");
        for (int cost : new int[] {0, 1, 99}) {
            FewEnds x = rows(3, "carry 47 cost 9;twist 1;wait 7 cost " + cost + ";", "abb", "aab");
            EDGES.good(x, "cost(0, 4), one place on", x.cost(0, 4), cost);
            EDGES.good(x, "cost(0, 5), at its place", x.cost(0, 5), cost);
        }
    }

    private static void yarnOfLinks() {
        EDGES.says(19, "STRAND times d, if it is CARRIED or TWISTED; STRAND times by how much the places differ, "
            + "if it WAITS; else 0.");
        for (int strand : new int[] {0, 1, 99}) {
            FewEnds x = rows(8, "carry 6 cost 5;strand " + strand + ";", "abbbbbba");
            EDGES.good(x, "yarnOf(0, 7), CARRIED", x.yarnOf(0, 7), 6 * strand);
            FewEnds y = rows(8, "carry 5 cost 5;twist 2;strand " + strand + ";", "abbbbbba");
            EDGES.good(y, "yarnOf(0, 7), TWISTED", y.yarnOf(0, 7), 6 * strand);
            FewEnds z = rows(8, "wait 7 cost 5;strand " + strand + ";", "abbbbbbb", "aaaaaaab");
            EDGES.good(z, "yarnOf(0, 15): it WAITS at its place", z.yarnOf(0, 15), 0);
            EDGES.good(z, "yarnOf(0, 14): it WAITS one place on", z.yarnOf(0, 14), strand);
            EDGES.good(z, "yarnOf(0, 9): it WAITS far off", z.yarnOf(0, 9), 6 * strand);
            FewEnds back = rows(3, "wait 7 cost 5;strand " + strand + ";", "baa", "abb");
            EDGES.good(back, "yarnOf(2, 5): it WAITS to the left", back.yarnOf(2, 5), 2 * strand);
            FewEnds far = farApart("carry 46 cost 0;strand " + strand + ";");
            EDGES.good(far, "yarnOf(0, 47)", far.yarnOf(0, 47), 46 * strand);
        }
        EDGES.says(19, "STRAND: YARN for each carried (0 to 99; 1 without)");
        FewEnds x = rows(4, "", "abba");
        EDGES.good(x, "yarnOf(0, 3) without it", x.yarnOf(0, 3), 2);
    }

    // ---- LINKS

    private static void noneFirst() {
        EDGES.says(22, "A PLAN are LINKS, none first");
        FewEnds x = rows(2, "", "aa", "aa");
        EDGES.links(x, -1, -1, -1, -1);
        EDGES.good(x, "threads(NONE)", x.threads(-1), 4);
        EDGES.says(22, "No LINKS.");
        Check.link(x, 0, 1, 1, 2, 2, 3);
        EDGES.good(x, "clear()", x.clear());
        EDGES.links(x, -1, -1, -1, -1);
        EDGES.good(x, "clear() again", x.clear());
    }

    private static void oneComesOneGoes() {
        EDGES.says(20, "of each STITCH at most one comes, at most one goes");
        FewEnds x = rows(4, "", "aaaa");
        EDGES.good(x, "link(0, 2)", x.link(0, 2));
        EDGES.refused(x, "link(0, 1): one goes", x.link(0, 1), 7);
        EDGES.refused(x, "link(1, 2): one comes", x.link(1, 2), 7);
        EDGES.refused(x, "link(0, 2) again", x.link(0, 2), 7);
        EDGES.links(x, 2, -1, -1, -1);
        EDGES.good(x, "link(2, 3): one may come, and one go", x.link(2, 3));
        EDGES.refused(x, "link(1, 3): one comes", x.link(1, 3), 7);
        EDGES.links(x, 2, -1, 3, -1);
        EDGES.says(20, "A LINK more (1; 7).");
        FewEnds y = rows(4, "carry 1 cost 0;", "aabb");
        EDGES.refused(y, "link(1, 2): unlike COLOURS", y.link(1, 2), 7);
        FewEnds z = rows(4, "carry 1 cost 0;", "abba");
        EDGES.refused(z, "link(0, 3): it can't be", z.link(0, 3), 7);
        EDGES.links(z, -1, -1, -1, -1);
    }

    private static void linkEnds() {
        EDGES.says(20, "A LINK more (1; 7).");
        FewEnds x = farApart("carry 47 cost 0;");
        EDGES.good(x, "link(0, 47): the first and the last", x.link(0, 47));
        EDGES.refused(x, "link(47, 48)", x.link(47, 48), 1);
        EDGES.refused(x, "link(-1, 47)", x.link(-1, 47), 1);
        EDGES.says(24, "The STITCH to which a LINK goes from one (1; 6).");
        EDGES.good(x, "goes(0)", x.goes(0), 47);
        EDGES.none(x, "goes(47)", x.goes(47), 6);
        EDGES.none(x, "goes(48)", x.goes(48), 1);
        EDGES.none(x, "goes(-1)", x.goes(-1), 1);
        EDGES.says(25, "The STITCH from which a LINK comes to one (1; 6).");
        EDGES.good(x, "comes(47)", x.comes(47), 0);
        EDGES.none(x, "comes(0)", x.comes(0), 6);
        EDGES.none(x, "comes(48)", x.comes(48), 1);
        EDGES.none(x, "comes(-1)", x.comes(-1), 1);
    }

    private static void unlink() {
        EDGES.says(21, "The LINK that goes from a STITCH is taken away (1; 6).");
        FewEnds x = rows(4, "", "aaaa");
        Check.link(x, 0, 1, 1, 2, 2, 3);
        EDGES.refused(x, "unlink(3): none goes", x.unlink(3), 6);
        EDGES.refused(x, "unlink(4)", x.unlink(4), 1);
        EDGES.refused(x, "unlink(-1)", x.unlink(-1), 1);
        EDGES.links(x, 1, 2, 3, -1);
        EDGES.good(x, "unlink(1)", x.unlink(1));
        EDGES.links(x, 1, -1, 3, -1);
        EDGES.none(x, "comes(2)", x.comes(2), 6);
        EDGES.refused(x, "unlink(1) again", x.unlink(1), 6);
        EDGES.good(x, "unlink(0)", x.unlink(0));
        EDGES.good(x, "unlink(2)", x.unlink(2));
        EDGES.links(x, -1, -1, -1, -1);
        EDGES.good(x, "link(0, 2) where none comes any more", x.link(0, 2));
    }

    // ---- a PLAN by a TRAY

    private static void planByTray() {
        EDGES.says(23, "so many couples of STITCHES (0 to 30), one behind the other, in place of all LINKS");
        String all = "aaaaaaaa";
        FewEnds x = rows(8, "", all, all, all, all, all, all);
        long[] numbers = new long[60];
        for (int k = 0; k < 30; k++) {
            numbers[2 * k] = 17 + k;
            numbers[2 * k + 1] = 18 + k;
        }
        tray(x, 3, 0, numbers);
        Check.link(x, 0, 1);
        for (int many : new int[] {Integer.MIN_VALUE, -1, 31, Integer.MAX_VALUE}) {
            EDGES.refused(x, "plan(3, " + many + ")", x.plan(3, many), 1);
        }
        EDGES.good(x, "goes(0): it stays", x.goes(0), 1);
        EDGES.good(x, "plan(3, 30)", x.plan(3, 30));
        EDGES.none(x, "goes(0): in place of all LINKS", x.goes(0), 6);
        EDGES.good(x, "threads(NONE) of 30", x.threads(-1), 18);
        EDGES.good(x, "goes(17)", x.goes(17), 18);
        EDGES.good(x, "goes(46)", x.goes(46), 47);
        EDGES.good(x, "plan(3, 29)", x.plan(3, 29));
        EDGES.none(x, "goes(46): one less", x.goes(46), 6);
        EDGES.good(x, "goes(45)", x.goes(45), 46);
        EDGES.good(x, "plan(3, 1)", x.plan(3, 1));
        EDGES.good(x, "threads(NONE) of 1", x.threads(-1), 47);
        EDGES.good(x, "plan(3, 0)", x.plan(3, 0));
        EDGES.good(x, "threads(NONE) of 0", x.threads(-1), 48);
        // The couples need not stand in the order of their STITCHES; what is behind them is not looked at.
        tray(x, 0, 0, 46, 47, 0, 1, -1, -1);
        EDGES.good(x, "plan(0, 2)", x.plan(0, 2));
        EDGES.good(x, "goes(0) of two", x.goes(0), 1);
        EDGES.good(x, "comes(47) of two", x.comes(47), 46);
    }

    private static void planNumbers() {
        EDGES.says(23, "5: no such STITCH, the second not later");
        long[][] wrong = {{-1, 0}, {-1, 3}, {0, 4}, {3, 4}, {4, 5}, {1, 1}, {2, 1}, {3, 0}, {1L << 32, 1},
            {0, 1L << 32 | 1}, {-1L << 32, 1}, {0, Long.MAX_VALUE}, {Long.MIN_VALUE, 3},
            {Long.MIN_VALUE, Long.MAX_VALUE}};
        for (long[] couple : wrong) {
            FewEnds x = rows(4, "", "aaaa");
            Check.link(x, 1, 2);
            tray(x, 0, 3, couple[0], couple[1]);
            EDGES.refused(x, "plan() of " + couple[0] + " " + couple[1], x.plan(0, 1), 5);
            tray(x, 0, 3, 0, 1, couple[0], couple[1]);
            EDGES.refused(x, "plan() of it behind another", x.plan(0, 2), 5);
            EDGES.links(x, -1, 2, -1, -1);
        }
        FewEnds x = rows(4, "", "aaaa");
        tray(x, 0, 0, 0, 3);
        EDGES.good(x, "plan() of the first and the last STITCH", x.plan(0, 1));
        EDGES.links(x, 3, -1, -1, -1);
        tray(x, 0, 0, 0, 256 + 3);
        EDGES.good(x, "plan() of a number that was cut to its sort", x.plan(0, 1));
        tray(x, 0, 0, 0, 128 + 3);
        EDGES.refused(x, "plan() of a number that is below 0 in its sort", x.plan(0, 1), 5);
        EDGES.says(23, "7: one can't be, or comes or goes already");
        long[][] both = {{0, 1, 0, 2}, {0, 2, 1, 2}, {0, 3, 0, 3}};
        for (long[] couples : both) {
            tray(x, 0, 1, couples);
            EDGES.refused(x, "plan() of " + java.util.Arrays.toString(couples), x.plan(0, 2), 7);
            EDGES.good(x, "goes(0) stays", x.goes(0), 3);
        }
        FewEnds y = rows(4, "carry 1 cost 0;", "abba");
        tray(y, 0, 2, 1, 2, 0, 3);
        EDGES.refused(y, "plan() of one that can't be", y.plan(0, 2), 7);
        EDGES.links(y, -1, -1, -1, -1);
        EDGES.good(y, "plan() without it", y.plan(0, 1));
    }

    private static void planTooFew() {
        EDGES.says(23, "a place that the TRAY has not, or too few numbers");
        FewEnds x = rows(4, "", "aaaa");
        for (int many : new int[] {1, 2, 30}) {
            x.tray(0, 0, 2 * many - 1);
            EDGES.refused(x, "plan() of " + many + " with a number too few", x.plan(0, many), 3);
        }
        tray(x, 0, 0, 0, 1, 1, 2);
        EDGES.good(x, "plan() with just as many", x.plan(0, 2));
        EDGES.refused(x, "plan() with two too few", x.plan(0, 3), 3);
        EDGES.links(x, 1, 2, -1, -1);
        x.tray(1, 0, 0);
        EDGES.refused(x, "plan() by a TRAY of none", x.plan(1, 1), 3);
        EDGES.good(x, "plan() of none by a TRAY of none", x.plan(1, 0));
        EDGES.links(x, -1, -1, -1, -1);
    }

    // ---- THREADS, and what a PLAN costs and takes

    private static void threads() {
        EDGES.says(26, "THREADS are rows of STITCHES linked so (one alone, too)");
        FewEnds x = rows(1, "", "b");
        EDGES.row(x, "thread(0, ..)", what -> x.thread(0, what), 1, 0, 0, 1, 3);
        EDGES.says(26, "How many THREADS there are, of a COLOUR, or of all (NONE) (1).");
        EDGES.good(x, "threads(NONE) of one STITCH", x.threads(-1), 1);
        EDGES.good(x, "threads(0): none of its COLOUR", x.threads(0), 0);
        EDGES.good(x, "threads(1)", x.threads(1), 1);
        EDGES.none(x, "threads(2)", x.threads(2), 1);
        EDGES.none(x, "threads(-2)", x.threads(-2), 1);
        EDGES.says(27, "Of a THREAD, what 0: COLOUR, 1: its first STITCH, 2: its last, 3: how many STITCHES, "
            + "4: its YARN (1).");
        EDGES.none(x, "thread(1, 0)", x.thread(1, 0), 1);
        EDGES.none(x, "thread(-1, 0)", x.thread(-1, 0), 1);
        EDGES.none(x, "thread(0, -1)", x.thread(0, -1), 1);
        EDGES.none(x, "thread(0, 5)", x.thread(0, 5), 1);
        String all = "aaaaaaaa";
        FewEnds y = rows(8, "", all, all, all, all, all, all);
        EDGES.good(y, "threads(NONE) of 48 alone", y.threads(-1), 48);
        EDGES.row(y, "thread(47, ..)", what -> y.thread(47, what), 0, 47, 47, 1, 1);
        EDGES.none(y, "thread(48, 0)", y.thread(48, 0), 1);
        y.plain();
        EDGES.good(y, "threads(NONE) of 48 in one", y.threads(-1), 1);
        EDGES.row(y, "thread(0, ..) of 48", what -> y.thread(0, what), 0, 0, 47, 48, 48);
        EDGES.none(y, "thread(1, 0) of one", y.thread(1, 0), 1);
    }

    private static void threadsInOrder() {
        EDGES.says(27, "numbered by their first STITCHES");
        FewEnds x = rows(6, "", "abaabb");
        Check.link(x, 1, 4, 2, 3, 0, 2);
        EDGES.row(x, "thread(t, 1)", t -> x.thread(t, 1), 0, 1, 5);
        EDGES.row(x, "thread(t, 2)", t -> x.thread(t, 2), 3, 4, 5);
        EDGES.row(x, "thread(t, 0)", t -> x.thread(t, 0), 0, 1, 1);
        EDGES.row(x, "thread(t, 3)", t -> x.thread(t, 3), 3, 2, 1);
        EDGES.row(x, "thread(t, 4)", t -> x.thread(t, 4), 3 + 1, 6 + 2, 3);
        x.unlink(0);
        EDGES.row(x, "thread(t, 1), one more", t -> x.thread(t, 1), 0, 1, 2, 5);
    }

    private static void ends() {
        EDGES.says(30, "ENDS: two of each.");
        for (int end : new int[] {0, 1, 99}) {
            FewEnds x = rows(3, "end " + end + ";", "aaa");
            EDGES.good(x, "planCost() of three, END " + end, x.planCost(), 6 * end);
            Check.link(x, 0, 1, 1, 2);
            EDGES.good(x, "planCost() of one, END " + end, x.planCost(), 2 * end);
        }
        EDGES.says(30, "END: what an end costs (0 to 99; 10 without)");
        EDGES.good(rows(1, "", "a"), "planCost() without it", rows(1, "", "a").planCost(), 20);
    }

    /** A column of a's at the left, b's else, knitted round. */
    private static FewEnds column(String behind) {
        return rows(2, "round;carry 47 cost 0;end 3;" + behind, "ab", "ab", "ab", "ab", "ab", "ab");
    }

    private static void hangs() {
        EDGES.says(28, "It HANGS in all ROWS from its first to its last STITCH's.");
        FewEnds x = column("");
        EDGES.row(x, "hangs, all alone", x::hangs, 2, 2, 2, 2, 2, 2);
        Check.link(x, 2, 8);
        EDGES.row(x, "hangs with 2 to 8", x::hangs, 2, 2, 3, 3, 2, 2);
        Check.link(x, 1, 11);
        EDGES.row(x, "hangs with 1 to 11", x::hangs, 2, 3, 4, 4, 3, 2);
        EDGES.says(28, "How many THREADS hang in a ROW (1).");
        EDGES.good(x, "hangs(0): the first ROW", x.hangs(0), 2);
        EDGES.good(x, "hangs(5): the last ROW", x.hangs(5), 2);
        EDGES.none(x, "hangs(6)", x.hangs(6), 1);
        EDGES.none(x, "hangs(-1)", x.hangs(-1), 1);
        FewEnds y = rows(1, "", "a", "a", "a");
        Check.link(y, 0, 1, 1, 2);
        EDGES.row(y, "hangs of one THREAD", y::hangs, 1, 1, 1);
        FewEnds one = rows(8, "", "aaaaaaaa");
        EDGES.row(one, "hangs in one ROW", one::hangs, 8);
    }

    private static void tangle() {
        EDGES.says(29, "TANGLE of a ROW: how many THREADS hang there above BALLS, times what each costs.");
        int[] balls = {1, 2, 3, 4, 48};
        long[][] due = {{7, 14, 21, 21, 14, 7}, {0, 7, 14, 14, 7, 0}, {0, 0, 7, 7, 0, 0}, {0, 0, 0, 0, 0, 0},
            {0, 0, 0, 0, 0, 0}};
        for (int k = 0; k < balls.length; k++) {
            FewEnds x = column("balls " + balls[k] + " cost 7;");
            Check.link(x, 2, 8, 1, 11);
            EDGES.row(x, "tangle above " + balls[k], x::tangle, due[k]);
        }
        for (int cost : new int[] {0, 1, 99}) {
            FewEnds x = rows(8, "balls 1 cost " + cost + ";", "aaaaaaaa");
            EDGES.row(x, "tangle, each " + cost, x::tangle, 7 * cost);
        }
        FewEnds x = rows(8, "", "aaaaaaaa");
        EDGES.row(x, "tangle without BALLS told", x::tangle, 0);
        EDGES.says(29, "TANGLE of a ROW (1).");
        EDGES.none(x, "tangle(1)", x.tangle(1), 1);
        EDGES.none(x, "tangle(-1)", x.tangle(-1), 1);
    }

    private static void costOfPlan() {
        EDGES.says(30, "COST of a PLAN: ENDS times END, all LINKS', all TANGLES.");
        EDGES.good(new FewEnds(), "planCost() without STITCHES", new FewEnds().planCost(), 0);
        FewEnds x = column("balls 1 cost 7;");
        EDGES.good(x, "planCost() without LINKS", x.planCost(), 12 * 6 + 6 * 7);
        FewEnds y = rows(2, "round;carry 47 cost 2;end 3;balls 1 cost 7;", "ab", "ab");
        Check.link(y, 0, 2);
        EDGES.good(y, "planCost() with a LINK", y.planCost(), 3 * 6 + 2 + 7 + 7);
        FewEnds z = rows(2, "wait 1 cost 99;end 0;", "ab", "ba");
        Check.link(z, 1, 3);
        EDGES.good(z, "planCost() of what WAITS alone", z.planCost(), 99);
        EDGES.says(30, "COST of the PLAN. ## Promise 31");
        z.unlink(1);
        EDGES.good(z, "planCost() of the PLAN as it is", z.planCost(), 0);
    }

    private static void longest() {
        EDGES.says(31, "LONGEST: the greatest d of LINKS that are CARRIED or TWISTED (0 without).");
        EDGES.good(new FewEnds(), "longest() without STITCHES", new FewEnds().longest(), 0);
        FewEnds x = rows(4, "wait 7 cost 1;", "aaab", "aaab");
        EDGES.good(x, "longest() without LINKS", x.longest(), 0);
        Check.link(x, 0, 1, 2, 5, 3, 4);
        EDGES.good(x, "longest() of NEXT and those that WAIT", x.longest(), 0);
        FewEnds y = rows(8, "carry 2 cost 1;twist 1;", "abaabbba");
        Check.link(y, 0, 2);
        EDGES.good(y, "longest() of 1", y.longest(), 1);
        Check.link(y, 3, 7);
        EDGES.good(y, "longest(), TWISTED", y.longest(), 3);
        FewEnds far = farApart("carry 47 cost 0;");
        Check.link(far, 0, 47, 1, 4);
        EDGES.good(far, "longest() of all", far.longest(), 46);
        EDGES.says(31, "`int longest()`: LONGEST.");
        far.unlink(0);
        EDGES.good(far, "longest() of the PLAN as it is", far.longest(), 2);
    }

    private static void yarnOfColour() {
        EDGES.says(32, "YARN of a COLOUR: YARN by stitch for all its STITCHES, and that of all LINKS between them.");
        FewEnds x = rows(4, "strand 5;", "abba");
        EDGES.row(x, "yarn without LINKS", x::yarn, 2, 6);
        Check.link(x, 0, 3, 1, 2);
        EDGES.row(x, "yarn with LINKS", x::yarn, 2 + 10, 6);
        EDGES.says(32, "YARN of a COLOUR (1).");
        EDGES.none(x, "yarn(2)", x.yarn(2), 1);
        EDGES.none(x, "yarn(-1): not of all", x.yarn(-1), 1);
        FewEnds y = rows(4, "strand 0;", "aaaa");
        Check.link(y, 0, 3);
        EDGES.row(y, "yarn of no STITCHES", y::yarn, 4, 0);
        FewEnds z = rows(3, "strand 7;wait 7 cost 0;", "abb", "bba");
        Check.link(z, 0, 3);
        EDGES.row(z, "yarn of what WAITS", z::yarn, 2 + 14, 12);
    }
}
