/** Edges of TRAYS, a new object, STATUS and FRACTIONS: promises 1 to 8. */
public final class TrayEdgeTest {
    private static final Edges EDGES = new Edges();
    private static final int LEAST = Integer.MIN_VALUE;
    private static final int MOST = Integer.MAX_VALUE;

    public static void main(String[] args) {
        life();
        lifeOfCharts();
        constant();
        missing();
        howMany();
        sorts();
        bits();
        newChart();
        newRest();
        latestStatus();
        noStatus();
        fractions();
        laid();
        written();
        noneFromMinusOne();
        pourWhole();
        pourOwn();
        pourEnds();
        pourBelow();
        pourOrder();
        EDGES.end("TrayEdgeTest");
    }

    private static void life() {
        EDGES.says(2, "An object is used for at most 512 calls after it has been made");
        FewEnds x = new FewEnds();
        x.tray(0, 3, 1);
        boolean same = true;
        for (int call = 2; call < 512; call += 2) {
            same &= x.write(0, 0, call) && x.read(0, 0) == call;
        }
        EDGES.due("calls 2 to 511", same, true);
        EDGES.due("call 512", x.read(0, 0), 510);
    }

    /** All of the 512 calls are dear ones. */
    private static void lifeOfCharts() {
        EDGES.says(2, "An object is used for at most 512 calls after it has been made");
        FewEnds x = Check.knitted("size 3 1;colour a shows 1 yarn 1;colour b shows 1 yarn 1;row a b a;alter 0;");
        boolean same = true;
        for (int k = 0; k < 250; k++) {
            same &= x.few(4) == 1 && x.fewAt(0, 0) == 1;
        }
        EDGES.due("500 calls of few() and fewAt()", same, true);
        EDGES.good(x, "best(0) behind them", x.best(0), 20);
        EDGES.good(x, "mark() behind them", x.mark(), 1);
        EDGES.good(x, "back() behind them", x.back(), 0);
    }

    private static void constant() {
        EDGES.says(1, "The constants: `NONE = -1`: None.");
        EDGES.due("NONE", FewEnds.NONE, -1);
    }

    private static void missing() {
        EDGES.says(5, "TRAYS 0 to 3 are MISSING at first");
        for (int tray : new int[] {LEAST, -1, 0, 1, 2, 3, 4, MOST}) {
            boolean there = tray >= 0 && tray <= 3;
            int why = there ? 2 : 1;
            FewEnds x = new FewEnds();
            int other = there ? (tray + 1) % 4 : 0;
            x.tray(other, 0, 1);
            EDGES.none(x, "read(" + tray + ", 0)", x.read(tray, 0), why);
            EDGES.refused(x, "write(" + tray + ", 0, 1)", x.write(tray, 0, 1), why);
            EDGES.refused(x, "plan(" + tray + ", 0)", x.plan(tray, 0), why);
            EDGES.refused(x, "pour() from " + tray, x.pour(tray, 0, other, 0, 0), why);
            EDGES.refused(x, "pour() to " + tray, x.pour(other, 0, tray, 0, 0), why);
            if (there) {
                EDGES.good(x, "tray(" + tray + ", 0, 1)", x.tray(tray, 0, 1));
                EDGES.good(x, "read(" + tray + ", 0) then", x.read(tray, 0), 0);
            } else {
                EDGES.refused(x, "tray(" + tray + ", 0, 1)", x.tray(tray, 0, 1), 1);
            }
        }
    }

    private static void howMany() {
        EDGES.says(5, "rows of 0 to 60 numbers");
        FewEnds x = new FewEnds();
        for (int many : new int[] {LEAST, -1, 61, MOST}) {
            EDGES.refused(x, "tray(1, 0, " + many + ")", x.tray(1, 0, many), 1);
            EDGES.none(x, "read(1, 0): it is still missing", x.read(1, 0), 2);
        }
        EDGES.good(x, "tray(1, 0, 0)", x.tray(1, 0, 0));
        EDGES.none(x, "read(1, 0): it is there, with no place", x.read(1, 0), 3);
        EDGES.refused(x, "write(1, 0, 5): with no place", x.write(1, 0, 5), 3);
        EDGES.good(x, "pour() of nothing out of it", x.pour(1, 0, 1, 0, 0));
        EDGES.good(x, "plan(1, 0) by it", x.plan(1, 0));
        EDGES.good(x, "tray(1, 0, 1)", x.tray(1, 0, 1));
        EDGES.good(x, "read(1, 0) of one", x.read(1, 0), 0);
        EDGES.none(x, "read(1, 1) of one", x.read(1, 1), 3);
        EDGES.good(x, "tray(1, 0, 60)", x.tray(1, 0, 60));
        for (int place = 0; place < 60; place++) {
            x.write(1, place, place + 1);
        }
        for (int place : new int[] {0, 1, 58, 59}) {
            EDGES.good(x, "read(1, " + place + ") of sixty", x.read(1, place), place + 1);
        }
        EDGES.none(x, "read(1, 60) of sixty", x.read(1, 60), 3);
    }

    private static void sorts() {
        EDGES.says(5, "numbers of 8 bits (sort 0), 16 (1), 32 (2) or 64 (3)");
        FewEnds x = new FewEnds();
        for (int sort : new int[] {LEAST, -1, 4, MOST}) {
            EDGES.refused(x, "tray(0, " + sort + ", 1)", x.tray(0, sort, 1), 1);
            EDGES.none(x, "read(0, 0): it is still missing", x.read(0, 0), 2);
        }
        for (int sort = 0; sort <= 3; sort++) {
            EDGES.good(x, "tray(0, " + sort + ", 1)", x.tray(0, sort, 1));
        }
    }

    private static void bits() {
        EDGES.says(6, "A number comes to a place of a TRAY, cut to its sort");
        for (int sort = 0; sort <= 3; sort++) {
            long most = (1L << (8 << sort) - 1) - 1;
            long least = -most - 1;
            long[] given = {0, 1, -1, most, least, most + 1, least - 1, Long.MAX_VALUE, Long.MIN_VALUE};
            long[] due = {0, 1, -1, most, least, least, most, -1, 0};
            if (sort == 3) {
                due[7] = Long.MAX_VALUE;
                due[8] = Long.MIN_VALUE;
            }
            FewEnds x = new FewEnds();
            x.tray(sort, sort, 2);
            for (int k = 0; k < given.length; k++) {
                EDGES.good(x, "write() of " + given[k] + ", sort " + sort, x.write(sort, 1, given[k]));
                EDGES.good(x, "read() of " + given[k] + ", sort " + sort, x.read(sort, 1), due[k]);
            }
            EDGES.good(x, "read() of the place ahead, sort " + sort, x.read(sort, 0), 0);
        }
    }

    private static void newChart() {
        EDGES.says(1, "A CHART of no STITCHES, COLOURS (all else as without it), no LINKS, DIRECTIONS, MARKS");
        FewEnds x = new FewEnds();
        EDGES.row(x, "told", x::told, 0, 0, 0, 10, 5, 0, 0, 3, 1, 48, 0, 1, 5, 5, 0);
        EDGES.none(x, "colour(0, 0)", x.colour(0, 0), 1);
        EDGES.none(x, "stitch(0, 0)", x.stitch(0, 0), 1);
        EDGES.none(x, "at(0, 0)", x.at(0, 0), 1);
        EDGES.none(x, "lawful(0, 1)", x.lawful(0, 1), 1);
        EDGES.none(x, "cost(0, 1)", x.cost(0, 1), 1);
        EDGES.none(x, "yarnOf(0, 1)", x.yarnOf(0, 1), 1);
        EDGES.refused(x, "link(0, 1)", x.link(0, 1), 1);
        EDGES.refused(x, "unlink(0)", x.unlink(0), 1);
        EDGES.none(x, "goes(0)", x.goes(0), 1);
        EDGES.none(x, "comes(0)", x.comes(0), 1);
        EDGES.good(x, "clear()", x.clear());
        EDGES.good(x, "threads(NONE)", x.threads(-1), 0);
        EDGES.none(x, "threads(0)", x.threads(0), 1);
        EDGES.none(x, "thread(0, 0)", x.thread(0, 0), 1);
        EDGES.none(x, "hangs(0)", x.hangs(0), 1);
        EDGES.none(x, "tangle(0)", x.tangle(0), 1);
        EDGES.good(x, "planCost()", x.planCost(), 0);
        EDGES.good(x, "longest()", x.longest(), 0);
        EDGES.none(x, "yarn(0)", x.yarn(0), 1);
        EDGES.good(x, "least(NONE)", x.least(-1), 0);
        EDGES.good(x, "fewest(NONE)", x.fewest(-1), 0);
        EDGES.good(x, "gap()", x.gap(), 0);
        EDGES.none(x, "rowAlone(0)", x.rowAlone(0), 1);
        EDGES.good(x, "other()", x.other(), 0);
        EDGES.none(x, "saves(0, 0)", x.saves(0, 0), 1);
        EDGES.good(x, "patches(NONE)", x.patches(-1), 0);
        EDGES.none(x, "patch(0, 0)", x.patch(0, 0), 1);
        EDGES.good(x, "machine(1)", x.machine(1), 0);
        EDGES.none(x, "lessened(0, 1)", x.lessened(0, 1), 1);
        EDGES.none(x, "behind(0)", x.behind(0), 1);
        EDGES.good(x, "mirrored()", x.mirrored(), 0);
        EDGES.good(x, "mirrorLeast()", x.mirrorLeast(), 0);
        EDGES.none(x, "lasts(0, 0)", x.lasts(0, 0), 1);
        EDGES.none(x, "window(0, 0, 0, 0)", x.window(0, 0, 0, 0), 1);
        EDGES.none(x, "seam(0)", x.seam(0), 1);
        EDGES.none(x, "buy(0, 1)", x.buy(0, 1), 1);
        EDGES.good(x, "runsOut(1)", x.runsOut(1), 0);
        EDGES.good(x, "plain()", x.plain(), 0);
        EDGES.good(x, "fill()", x.fill(), 0);
        EDGES.good(x, "tidy()", x.tidy(), 0);
        EDGES.none(x, "follow()", x.follow(), 6);
        EDGES.none(x, "back()", x.back(), 6);
    }

    private static void newRest() {
        EDGES.says(1, "TRAYS are MISSING; an empty tape; the FRACTION 0 by 1; STATUS 0.");
        FewEnds x = new FewEnds();
        EDGES.due("status()", x.status(), 0);
        EDGES.due("top()", x.top(), 0);
        EDGES.due("bottom()", x.bottom(), 1);
        for (int tray = 0; tray < 4; tray++) {
            EDGES.none(x, "read(" + tray + ", 0)", x.read(tray, 0), 2);
        }
        EDGES.none(x, "chart(1): an empty tape", x.chart(1), 1);
        EDGES.none(x, "directions(1): an empty tape", x.directions(1), 1);
        EDGES.due("feed() on an empty tape", x.feed(1, 2, 3, 4, 5), 20);
        EDGES.due("status() of another one", new FewEnds().status(), 0);
    }

    private static void latestStatus() {
        EDGES.says(2, "STATUS of the latest call that has one.");
        FewEnds x = new FewEnds();
        x.read(0, 0);
        EDGES.due("status() behind a STATUS of 2", x.status(), 2);
        x.read(4, 0);
        EDGES.due("status() behind a STATUS of 1", x.status(), 1);
        x.back();
        EDGES.due("status() behind a STATUS of 6", x.status(), 6);
        x.chart(0);
        EDGES.due("status() behind a STATUS of 9", x.status(), 9);
        x.clear();
        EDGES.due("status() behind a STATUS of 0", x.status(), 0);
    }

    private static void noStatus() {
        EDGES.says(2, "status(), top(), bottom(), feed(), fault() have none.");
        FewEnds x = new FewEnds();
        x.read(0, 0);
        x.status();
        EDGES.due("status() behind status()", x.status(), 2);
        x.top();
        EDGES.due("status() behind top()", x.status(), 2);
        x.bottom();
        EDGES.due("status() behind bottom()", x.status(), 2);
        x.fault(0);
        x.fault(9);
        EDGES.due("status() behind fault()", x.status(), 2);
        for (int k = 0; k < 41; k++) {
            x.feed(0, 0, 0, 0, 0);
        }
        EDGES.due("status() behind feed() that gives NONE", x.status(), 2);
        x.clear();
        x.feed(0, 0, 0, 0, 0);
        x.fault(-1);
        EDGES.due("status() behind them, 0", x.status(), 0);
    }

    /** LEAST of all (so many ENDS) by COST of the PLAN, without LINKS. */
    private static void fraction(String text, long top, long bottom) {
        FewEnds x = Check.knitted(text);
        EDGES.good(x, "worth() of " + text, x.worth());
        EDGES.due("top() of " + text, x.top(), top);
        EDGES.due("bottom() of " + text, x.bottom(), bottom);
    }

    private static void fractions() {
        String two = "size 2 1;colour a shows 1 yarn 1;row a a;";
        EDGES.says(3, "FRACTIONS are told by top() and bottom() without a common divisor");
        fraction(two, 1, 2);
        fraction(two + "end 3;balls 1 cost 1;", 6, 13);
        fraction(two + "end 3;balls 1 cost 3;", 2, 5);
        fraction("size 1 1;colour a shows 1 yarn 1;row a;end 99;", 1, 1);
        EDGES.says(4, "the bottom above 0; 0 is 0 by 1");
        fraction(two + "end 0;balls 1 cost 1;", 0, 1);
        fraction(two + "end 0;balls 1 cost 99;", 0, 1);
        EDGES.due("bottom() of a new object", new FewEnds().bottom(), 1);
        EDGES.says(3, "The top of the FRACTION told latest.");
        FewEnds x = Check.knitted(two);
        x.worth();
        Check.chart(x, two + "end 0;");
        EDGES.refused(x, "worth() of a COST of 0", x.worth(), 6);
        EDGES.due("top() of the one told latest", x.top(), 1);
        Check.chart(x, two + "end 3;balls 1 cost 3;");
        EDGES.due("top() ahead of the next one", x.top(), 1);
        x.worth();
        EDGES.due("top() of the next one", x.top(), 2);
        EDGES.says(4, "Its bottom, above 0.");
        EDGES.due("bottom() of the next one", x.bottom(), 5);
        x.link(0, 1);
        EDGES.due("bottom() behind another call", x.bottom(), 5);
    }

    private static void laid() {
        EDGES.says(5, "A TRAY is a row of so many 0s (1).");
        FewEnds x = new FewEnds();
        x.tray(2, 3, 3);
        for (int place = 0; place < 3; place++) {
            x.write(2, place, -1);
        }
        EDGES.refused(x, "tray(2, 3, 61)", x.tray(2, 3, 61), 1);
        EDGES.good(x, "read(2, 2): the old one is there", x.read(2, 2), -1);
        EDGES.good(x, "tray(2, 3, 1)", x.tray(2, 3, 1));
        EDGES.good(x, "read(2, 0)", x.read(2, 0), 0);
        EDGES.none(x, "read(2, 1): it is shorter", x.read(2, 1), 3);
        EDGES.good(x, "tray(2, 0, 3)", x.tray(2, 0, 3));
        for (int place = 0; place < 3; place++) {
            EDGES.good(x, "read(2, " + place + ")", x.read(2, place), 0);
        }
        x.write(2, 0, 256);
        EDGES.good(x, "read(2, 0): of the new sort", x.read(2, 0), 0);
    }

    private static void written() {
        EDGES.says(6, "a place that the TRAY has not");
        FewEnds x = new FewEnds();
        x.tray(0, 3, 3);
        for (int place : new int[] {LEAST, -1, 3, 60, MOST}) {
            EDGES.refused(x, "write(0, " + place + ", 9)", x.write(0, place, 9), 3);
            EDGES.none(x, "read(0, " + place + ")", x.read(0, place), 3);
        }
        for (int place = 0; place < 3; place++) {
            EDGES.good(x, "read(0, " + place + "): nothing came", x.read(0, place), 0);
        }
        EDGES.good(x, "write(0, 0, 7)", x.write(0, 0, 7));
        EDGES.good(x, "write(0, 2, 8)", x.write(0, 2, 8));
        EDGES.good(x, "read(0, 0)", x.read(0, 0), 7);
        EDGES.good(x, "read(0, 1)", x.read(0, 1), 0);
        EDGES.good(x, "read(0, 2)", x.read(0, 2), 8);
    }

    private static void noneFromMinusOne() {
        EDGES.says(7, "The number in a place of a TRAY; STATUS tells NONE from -1 (1, 2, 3).");
        FewEnds x = new FewEnds();
        for (int sort = 0; sort <= 3; sort++) {
            x.tray(0, sort, 1);
            x.write(0, 0, -1);
            EDGES.good(x, "read() of -1, sort " + sort, x.read(0, 0), -1);
            EDGES.none(x, "read() of no place, sort " + sort, x.read(0, 1), 3);
        }
        EDGES.none(x, "read(1, 0)", x.read(1, 0), 2);
        EDGES.none(x, "read(-1, 0)", x.read(-1, 0), 1);
    }

    /** TRAYS 0 and 1 of so many numbers: 1, 2, 3 .. in TRAY 0. */
    private static FewEnds two(int many, int others) {
        FewEnds x = new FewEnds();
        x.tray(0, 3, many);
        x.tray(1, 3, others);
        for (int place = 0; place < many; place++) {
            x.write(0, place, place + 1);
        }
        return x;
    }

    private static void holds(FewEnds x, int tray, long... due) {
        for (int place = 0; place < due.length; place++) {
            EDGES.good(x, "read(" + tray + ", " + place + ")", x.read(tray, place), due[place]);
        }
    }

    private static void pourWhole() {
        EDGES.says(8, "So many numbers of a TRAY, from a place on, come to another one's (or its own) place on");
        FewEnds x = two(60, 60);
        EDGES.good(x, "pour() of sixty", x.pour(0, 0, 1, 0, 60));
        for (int place = 0; place < 60; place++) {
            EDGES.due("read(1, " + place + ")", x.read(1, place), place + 1);
        }
        FewEnds y = two(4, 3);
        EDGES.good(y, "pour() of the last one to the last place", y.pour(0, 3, 1, 2, 1));
        holds(y, 1, 0, 0, 4);
        EDGES.good(y, "pour() of the first one to the first place", y.pour(0, 0, 1, 0, 1));
        holds(y, 1, 1, 0, 4);
        holds(y, 0, 1, 2, 3, 4);
    }

    private static void pourOwn() {
        EDGES.says(8, "(or its own) place on, as they were");
        FewEnds x = two(5, 0);
        EDGES.good(x, "pour() one place on", x.pour(0, 0, 0, 1, 4));
        holds(x, 0, 1, 1, 2, 3, 4);
        FewEnds y = two(5, 0);
        EDGES.good(y, "pour() one place back", y.pour(0, 1, 0, 0, 4));
        holds(y, 0, 2, 3, 4, 5, 5);
        FewEnds z = two(5, 0);
        EDGES.good(z, "pour() of all to where they are", z.pour(0, 0, 0, 0, 5));
        holds(z, 0, 1, 2, 3, 4, 5);
    }

    private static void pourEnds() {
        EDGES.says(8, "a place that the TRAY has not, or too few numbers");
        FewEnds x = two(4, 3);
        EDGES.refused(x, "pour() of one more than there are", x.pour(0, 2, 1, 0, 3), 3);
        EDGES.refused(x, "pour() of one more than there is room for", x.pour(0, 0, 1, 1, 3), 3);
        EDGES.refused(x, "pour() of more than the other one", x.pour(0, 0, 1, 0, 4), 3);
        EDGES.refused(x, "pour() from behind the last place", x.pour(0, 4, 1, 0, 1), 3);
        EDGES.refused(x, "pour() to behind the last place", x.pour(0, 0, 1, 3, 1), 3);
        EDGES.refused(x, "pour() of nothing from beyond the end", x.pour(0, 5, 1, 0, 0), 3);
        EDGES.refused(x, "pour() of nothing to beyond the end", x.pour(0, 0, 1, 4, 0), 3);
        EDGES.refused(x, "pour() of the most", x.pour(0, 1, 1, 1, MOST), 3);
        EDGES.refused(x, "pour() from the most", x.pour(0, MOST, 1, 0, 1), 3);
        EDGES.refused(x, "pour() to the most", x.pour(0, 0, 1, MOST, 1), 3);
        EDGES.refused(x, "pour() of the most from the most to the most", x.pour(0, MOST, 1, MOST, MOST), 3);
        holds(x, 1, 0, 0, 0);
        EDGES.good(x, "pour() of as many as there are from there on", x.pour(0, 2, 1, 1, 2));
        holds(x, 1, 0, 3, 4);
        EDGES.good(x, "pour() of none", x.pour(0, 0, 1, 0, 0));
        EDGES.good(x, "pour() of none at the last places", x.pour(0, 3, 1, 2, 0));
        holds(x, 1, 0, 3, 4);
    }

    private static void pourBelow() {
        EDGES.says(8, "(1: below 0, too; 2; 8; 3; asked in this order)");
        for (int low : new int[] {-1, LEAST}) {
            FewEnds x = two(4, 3);
            EDGES.refused(x, "pour() from " + low, x.pour(0, low, 1, 0, 1), 1);
            EDGES.refused(x, "pour() to " + low, x.pour(0, 0, 1, low, 1), 1);
            EDGES.refused(x, "pour() of " + low, x.pour(0, 0, 1, 0, low), 1);
            holds(x, 1, 0, 0, 0);
        }
    }

    private static void pourOrder() {
        EDGES.says(8, "(1: below 0, too; 2; 8; 3; asked in this order)");
        FewEnds x = two(4, 3);
        x.tray(2, 0, 3);
        EDGES.refused(x, "1 ahead of 2, from", x.pour(3, -1, 1, 0, 1), 1);
        EDGES.refused(x, "1 ahead of 2, to", x.pour(0, 0, 3, -1, 1), 1);
        EDGES.refused(x, "1 ahead of 2, of", x.pour(3, 0, 3, 0, -1), 1);
        EDGES.refused(x, "1 of the other one ahead of 2", x.pour(3, 0, 4, 0, 1), 1);
        EDGES.refused(x, "1 of the first one ahead of 2", x.pour(-1, 0, 3, 0, 1), 1);
        EDGES.refused(x, "1 ahead of 8", x.pour(0, 0, 2, 0, -1), 1);
        EDGES.refused(x, "1 ahead of 3", x.pour(0, 9, 1, 0, -1), 1);
        EDGES.refused(x, "2 ahead of 8, from", x.pour(3, 0, 2, 0, 1), 2);
        EDGES.refused(x, "2 ahead of 8, to", x.pour(2, 0, 3, 0, 1), 2);
        EDGES.refused(x, "2 ahead of 3, from", x.pour(3, 99, 1, 0, 1), 2);
        EDGES.refused(x, "2 ahead of 3, to", x.pour(0, 99, 3, 0, 1), 2);
        EDGES.refused(x, "8 ahead of 3", x.pour(0, 99, 2, 99, 99), 8);
        EDGES.refused(x, "8 of nothing", x.pour(0, 0, 2, 0, 0), 8);
        EDGES.refused(x, "8 the other way", x.pour(2, 0, 0, 0, 1), 8);
        EDGES.refused(x, "3", x.pour(0, 99, 1, 0, 1), 3);
        holds(x, 1, 0, 0, 0);
        holds(x, 2, 0, 0, 0);
    }
}
