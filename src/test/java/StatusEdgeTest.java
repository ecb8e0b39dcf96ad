import java.util.ArrayList;
import java.util.List;
import java.util.function.IntToLongFunction;
import java.util.function.Supplier;

/** Edges of the STATUS: the range of each number, which STATUS comes first, and that nothing else changes. */
public final class StatusEdgeTest {
    private static final Edges EDGES = new Edges();
    private static final int MOST = Integer.MAX_VALUE;
    private static final String AB = "colour a shows 1 yarn 1;colour b shows 2 yarn 3;";

    /** A call and its answer; false is 0. */
    private interface Call {
        long on(FewEnds x);
    }

    public static void main(String[] args) {
        ranges();
        rangesOfTrays();
        rangesOfTheTape();
        eachOfTrays();
        eachOfTheRest();
        zeroBehindAnother();
        firstOfSeveral();
        firstOfSeveralInPlans();
        refusedChangesNothing();
        faultChangesTheTape();
        askingChangesNothing();
        EDGES.end("StatusEdgeTest");
    }

    private static long bit(boolean answer) {
        return answer ? 1 : 0;
    }

    // ---- ranges

    /** A number from the least to the greatest that can be: at both ends no STATUS of 1, beyond them 1. */
    private static void range(FewEnds x, String call, int low, int high, IntToLongFunction asked) {
        for (int n : new int[] {low, high}) {
            asked.applyAsLong(n);
            EDGES.due("status() of " + call + " of " + n + " is not 1", x.status() != 1, true);
        }
        List<Integer> beyond = new ArrayList<>(List.of(high + 1, MOST, low - 1, Integer.MIN_VALUE));
        for (int n : beyond) {
            long got = asked.applyAsLong(n);
            EDGES.due(call + " of " + n, got == FewEnds.NONE || got == 0, true);
            EDGES.due("status() of " + call + " of " + n, x.status(), 1);
        }
    }

    private static void ranges() {
        EDGES.says(2, "1 a number that can't be; no such TRAY, STITCH, ROW, COLOUR, THREAD.");
        String[] charts = {"size 1 1;colour a shows 1 yarn 1;row a;", "size 3 2;" + AB + "row a b a;row b a b;",
            "size 8 6;" + AB + "colour c shows 1 yarn 1;colour d shows 1 yarn 1;colour e shows 1 yarn 1;"
                + "row a b c d e a b c;".repeat(6) + "round;"};
        for (String chart : charts) {
            Supplier<FewEnds> knitted = () -> Check.knitted(chart);
            rangesOfChart(knitted.get());
            rangesOfPlan(knitted.get());
            rangesOfLeast(knitted.get());
            rangesOfPictures(knitted.get());
            rangesOfBalls(knitted.get());
        }
    }

    private static void rangesOfChart(FewEnds x) {
        int stitches = x.told(0) * x.told(1);
        int colours = x.told(2);
        range(x, "told(what)", 0, 14, x::told);
        range(x, "colour(colour, 0)", 0, colours - 1, n -> x.colour(n, 0));
        range(x, "colour(0, what)", 0, 2, n -> x.colour(0, n));
        range(x, "stitch(stitch, 0)", 0, stitches - 1, n -> x.stitch(n, 0));
        range(x, "stitch(0, what)", 0, 2, n -> x.stitch(0, n));
        range(x, "at(x, 0)", 0, x.told(0) - 1, n -> x.at(n, 0));
        range(x, "at(0, row)", 0, x.told(1) - 1, n -> x.at(0, n));
        if (stitches > 1) {
            range(x, "lawful(i, last)", 0, stitches - 2, n -> x.lawful(n, stitches - 1));
            range(x, "lawful(0, j)", 1, stitches - 1, n -> x.lawful(0, n));
            range(x, "cost(i, last)", 0, stitches - 2, n -> x.cost(n, stitches - 1));
            range(x, "cost(0, j)", 1, stitches - 1, n -> x.cost(0, n));
            range(x, "yarnOf(i, last)", 0, stitches - 2, n -> x.yarnOf(n, stitches - 1));
            range(x, "yarnOf(0, j)", 1, stitches - 1, n -> x.yarnOf(0, n));
        }
    }

    private static void rangesOfPlan(FewEnds x) {
        int stitches = x.told(0) * x.told(1);
        int colours = x.told(2);
        range(x, "goes(stitch)", 0, stitches - 1, x::goes);
        range(x, "comes(stitch)", 0, stitches - 1, x::comes);
        range(x, "unlink(stitch)", 0, stitches - 1, n -> bit(x.unlink(n)));
        range(x, "threads(colour)", -1, colours - 1, x::threads);
        range(x, "thread(thread, 0)", 0, stitches - 1, n -> x.thread(n, 0));
        range(x, "thread(0, what)", 0, 4, n -> x.thread(0, n));
        range(x, "hangs(row)", 0, x.told(1) - 1, x::hangs);
        range(x, "tangle(row)", 0, x.told(1) - 1, x::tangle);
        range(x, "yarn(colour)", 0, colours - 1, x::yarn);
        if (stitches > 1) {
            range(x, "link(i, last)", 0, stitches - 2, n -> bit(x.link(n, stitches - 1)));
            range(x, "link(0, j)", 1, stitches - 1, n -> bit(x.link(0, n)));
        }
        x.plain();
        int threads = x.threads(-1);
        range(x, "thread(thread, 0) of a PLAIN one", 0, threads - 1, n -> x.thread(n, 0));
        x.tray(0, 0, 60);
        range(x, "plan(0, many)", 0, 30, n -> bit(x.plan(0, n)));
        range(x, "plan(tray, 0)", 0, 3, n -> bit(x.plan(n, 0)));
    }

    private static void rangesOfLeast(FewEnds x) {
        int stitches = x.told(0) * x.told(1);
        int colours = x.told(2);
        range(x, "least(colour)", -1, colours - 1, x::least);
        range(x, "fewest(colour)", -1, colours - 1, x::fewest);
        range(x, "rowAlone(row)", 0, x.told(1) - 1, x::rowAlone);
        if (colours > 1) {
            int last = x.stitch(stitches - 1, 0);
            range(x, "saves(0, colour)", 1, colours - 1, n -> x.saves(0, n));
            range(x, "saves(stitch, of another COLOUR)", 0, stitches - 1,
                n -> x.saves(n, n == 0 ? 1 : last == 0 ? 1 : 0));
        }
        range(x, "best(what)", 0, 2, x::best);
        range(x, "few(many)", 1, 4, x::few);
        range(x, "fewAt(0, what)", 0, 2, n -> x.fewAt(0, n));
    }

    private static void rangesOfPictures(FewEnds x) {
        int stitches = x.told(0) * x.told(1);
        int colours = x.told(2);
        int right = x.told(0) - 1;
        int last = x.told(1) - 1;
        range(x, "patches(colour)", -1, colours - 1, x::patches);
        range(x, "patch(stitch, 0)", 0, stitches - 1, n -> x.patch(n, 0));
        range(x, "patch(0, what)", 0, 2, n -> x.patch(0, n));
        range(x, "machine(n)", 1, 5, x::machine);
        range(x, "lessened(row, 1)", 0, last, n -> x.lessened(n, 1));
        range(x, "lessened(0, n)", 1, 5, n -> x.lessened(0, n));
        range(x, "behind(stitch)", 0, stitches - 1, x::behind);
        range(x, "lasts(colour, 0)", 0, colours - 1, n -> x.lasts(n, 0));
        range(x, "lasts(0, yarn)", 0, 9999, n -> x.lasts(0, n));
        range(x, "window(left, ..)", 0, right, n -> x.window(n, right, 0, last));
        range(x, "window(0, right, ..)", 0, right, n -> x.window(0, n, 0, last));
        range(x, "window(.., first, last)", 0, last, n -> x.window(0, right, n, last));
        range(x, "window(.., 0, last)", 0, last, n -> x.window(0, right, 0, n));
        range(x, "seam(offset)", 0, last, x::seam);
    }

    private static void rangesOfBalls(FewEnds x) {
        range(x, "buy(colour, 1)", 0, x.told(2) - 1, n -> x.buy(n, 1));
        range(x, "buy(0, yarn)", 1, 9999, n -> x.buy(0, n));
        range(x, "runsOut(yarn)", 1, 9999, x::runsOut);
        range(x, "followed(what)", 0, 3, x::followed);
    }

    private static void rangesOfTrays() {
        EDGES.says(5, "1 a number that can't be; no such TRAY");
        FewEnds x = new FewEnds();
        range(x, "tray(tray, 0, 60)", 0, 3, n -> bit(x.tray(n, 0, 60)));
        range(x, "tray(0, sort, 60)", 0, 3, n -> bit(x.tray(0, n, 60)));
        range(x, "tray(0, 0, many)", 0, 60, n -> bit(x.tray(0, 0, n)));
        range(x, "write(tray, 0, 0)", 0, 3, n -> bit(x.write(n, 0, 0)));
        range(x, "read(tray, 0)", 0, 3, n -> x.read(n, 0));
        range(x, "pour(from, ..)", 0, 3, n -> bit(x.pour(n, 0, 0, 0, 0)));
        range(x, "pour(.., to, ..)", 0, 3, n -> bit(x.pour(0, 0, n, 0, 0)));
    }

    private static void rangesOfTheTape() {
        EDGES.says(10, "1 a number that can't be");
        FewEnds x = new FewEnds();
        range(x, "chart(n) of an empty tape", 0, 0, x::chart);
        range(x, "directions(n) of an empty tape", 0, 0, x::directions);
        for (int n : new int[] {0, 1, 300, 800}) {
            FewEnds fed = new FewEnds();
            for (int k = 0; k < 40; k++) {
                fed.feed(0x20202020, 0x20202020, 0x20202020, 0x20202020, 0x20202020);
            }
            EDGES.none(fed, "chart(801)", fed.chart(801), 1);
            EDGES.none(fed, "directions(301)", fed.directions(301), 1);
            EDGES.none(fed, "directions(800)", fed.directions(800), 1);
            if (n <= 300) {
                EDGES.good(fed, "directions(" + n + ")", fed.directions(n), 0);
            } else {
                EDGES.none(fed, "chart(" + n + ")", fed.chart(n), 9);
            }
        }
    }

    // ---- each STATUS

    private static void eachOfTrays() {
        FewEnds x = Check.knitted("size 4 1;" + AB + "row a b b a;carry 1 cost 0;");
        fill(x, 0, 0, 3, 4);
        x.tray(1, 0, 0);
        EDGES.says(2, "2 the TRAY is MISSING.");
        EDGES.none(x, "read(3, 0)", x.read(3, 0), 2);
        EDGES.refused(x, "write(3, 0, 1)", x.write(3, 0, 1), 2);
        EDGES.refused(x, "pour() from 3", x.pour(3, 0, 0, 0, 0), 2);
        EDGES.refused(x, "pour() to 3", x.pour(0, 0, 3, 0, 0), 2);
        EDGES.refused(x, "plan(3, 0)", x.plan(3, 0), 2);
        EDGES.says(2, "3 a place that the TRAY has not, or too few numbers.");
        EDGES.none(x, "read(0, 3)", x.read(0, 3), 3);
        EDGES.none(x, "read(1, 0)", x.read(1, 0), 3);
        EDGES.refused(x, "write(0, 3, 1)", x.write(0, 3, 1), 3);
        EDGES.refused(x, "pour() of four", x.pour(0, 0, 0, 0, 4), 3);
        EDGES.refused(x, "plan(0, 2)", x.plan(0, 2), 3);
        EDGES.says(23, "5 a number in a TRAY that can't be.");
        fill(x, 2, 1, 4);
        EDGES.refused(x, "plan(2, 1): no such STITCH", x.plan(2, 1), 5);
        fill(x, 2, 2, 2);
        EDGES.refused(x, "plan(2, 1): the second not later", x.plan(2, 1), 5);
        EDGES.says(8, "8 TRAYS are of unlike sorts.");
        for (int sort = 0; sort <= 3; sort++) {
            for (int other = 0; other <= 3; other++) {
                x.tray(2, sort, 1);
                x.tray(3, other, 1);
                boolean got = x.pour(2, 0, 3, 0, 1);
                EDGES.due("pour() of sort " + sort + " to " + other, got, sort == other);
                EDGES.due("status() of it", x.status(), sort == other ? 0 : 8);
            }
        }
    }

    private static void eachOfTheRest() {
        FewEnds x = Check.knitted("size 4 1;" + AB + "row a b b a;carry 1 cost 0;");
        EDGES.says(65, "4 one too many.");
        x.mark();
        x.mark();
        EDGES.good(x, "mark(): the third", x.mark(), 3);
        EDGES.none(x, "mark(): one too many", x.mark(), 4);
        EDGES.says(2, "6 there is none such.");
        EDGES.refused(x, "unlink(1)", x.unlink(1), 6);
        EDGES.none(x, "goes(1)", x.goes(1), 6);
        EDGES.none(x, "comes(2)", x.comes(2), 6);
        EDGES.none(x, "fewAt(0, 0)", x.fewAt(0, 0), 6);
        EDGES.none(x, "lasts(0, 9999)", x.lasts(0, 9999), 6);
        EDGES.none(x, "follow()", x.follow(), 6);
        EDGES.none(x, "followed(0)", x.followed(0), 6);
        EDGES.refused(x, "take()", x.take(), 6);
        EDGES.says(2, "7 it can't be: no such LINK, one that comes or goes already.");
        EDGES.none(x, "cost(0, 3)", x.cost(0, 3), 7);
        EDGES.none(x, "yarnOf(0, 1)", x.yarnOf(0, 1), 7);
        EDGES.refused(x, "link(0, 3)", x.link(0, 3), 7);
        Check.link(x, 1, 2);
        EDGES.refused(x, "link(1, 2): one goes, and one comes already", x.link(1, 2), 7);
        EDGES.says(2, "9 a FAULT.");
        EDGES.none(x, "chart(0)", x.chart(0), 9);
        EDGES.none(x, "directions of no STEP", Check.directions(x, "w"), 9);
        EDGES.says(2, "0 else.");
        EDGES.good(x, "goes(1)", x.goes(1), 2);
        EDGES.good(x, "clear()", x.clear());
        EDGES.good(x, "directions(0)", x.directions(0), 0);
    }

    /** Each call tells its own STATUS: 0, though that of the call ahead was another one. */
    private static void zeroBehindAnother() {
        EDGES.says(2, "STATUS of the latest call that has one.");
        List<Call> all = new ArrayList<>(List.of(x -> bit(x.tray(3, 0, 1)), x -> bit(x.write(0, 0, 1)),
            x -> x.read(0, 0), x -> bit(x.pour(0, 0, 2, 0, 1)), x -> x.told(0), x -> x.colour(0, 0),
            x -> x.colour(0, 1), x -> x.colour(0, 2), x -> x.stitch(0, 0), x -> x.stitch(0, 1), x -> x.stitch(0, 2),
            x -> x.at(0, 0), x -> x.lawful(0, 1), x -> x.lawful(3, 4), x -> x.cost(3, 4), x -> x.yarnOf(3, 4),
            x -> bit(x.link(4, 6)), x -> bit(x.unlink(3)), x -> bit(x.clear()), x -> bit(x.plan(0, 0)),
            x -> x.goes(3), x -> x.comes(4), x -> x.threads(-1), x -> x.threads(0), x -> x.thread(0, 0),
            x -> x.thread(0, 1), x -> x.thread(0, 2), x -> x.thread(0, 3), x -> x.thread(0, 4), x -> x.hangs(0),
            x -> x.tangle(0), FewEnds::planCost, FewEnds::longest, x -> x.yarn(0), x -> x.least(-1), x -> x.least(0),
            x -> x.fewest(-1), x -> x.fewest(0), FewEnds::gap, x -> bit(x.worth()), x -> x.rowAlone(1)));
        all.addAll(List.of(FewEnds::other, x -> x.saves(0, 1), x -> x.best(0), x -> x.best(1), x -> x.best(2),
            x -> x.few(1), x -> x.fewAt(0, 0), x -> x.fewAt(0, 1), x -> x.fewAt(0, 2), FewEnds::sewn,
            FewEnds::sewnCost, x -> x.patches(-1), x -> x.patches(0), x -> x.patch(0, 0), x -> x.patch(0, 1),
            x -> x.patch(0, 2), x -> x.machine(1), x -> x.lessened(0, 1), x -> x.behind(0), FewEnds::thickest,
            FewEnds::mirrored, FewEnds::mirrorLeast, x -> x.lasts(0, 1), x -> x.window(0, 0, 0, 0), x -> x.seam(0),
            FewEnds::matched, x -> x.buy(0, 1), x -> x.runsOut(1), FewEnds::plain, FewEnds::fill, FewEnds::tidy,
            FewEnds::follow, x -> x.followed(0), x -> x.followed(1), x -> x.followed(2), x -> x.followed(3),
            x -> bit(x.take()), FewEnds::back, x -> x.chart(46)));
        for (int k = 0; k < all.size(); k++) {
            FewEnds x = rich();
            x.read(-1, 0);
            all.get(k).on(x);
            EDGES.due("status() of call " + k, x.status(), 0);
        }
        FewEnds x = rich();
        x.back();
        x.read(-1, 0);
        EDGES.good(x, "mark()", x.mark(), 3);
        x.chart(0);
        EDGES.good(x, "directions()", Check.directions(x, "cut w;"), 1);
    }

    // ---- which STATUS comes first

    private static void firstOfSeveral() {
        EDGES.says(2, "STATUS of a call is the first of these that holds");
        FewEnds x = Check.knitted("size 4 1;" + AB + "row a b b a;carry 1 cost 0;end 0;");
        x.tray(0, 0, 2);
        EDGES.refused(x, "write(): 2 ahead of 3", x.write(1, 99, 1), 2);
        EDGES.refused(x, "write(): 1 ahead of 3", x.write(4, -1, 1), 1);
        EDGES.none(x, "read(): 2 ahead of 3", x.read(1, -1), 2);
        EDGES.none(x, "read(): 1 ahead of 3", x.read(-1, 99), 1);
        EDGES.refused(x, "unlink(): 1 ahead of 6", x.unlink(4), 1);
        EDGES.none(x, "goes(): 1 ahead of 6", x.goes(4), 1);
        EDGES.none(x, "comes(): 1 ahead of 6", x.comes(-1), 1);
        EDGES.none(x, "cost(): 1 ahead of 7", x.cost(3, 0), 1);
        EDGES.none(x, "yarnOf(): 1 ahead of 7", x.yarnOf(3, 0), 1);
        EDGES.none(x, "cost(): 7", x.cost(0, 3), 7);
        EDGES.none(x, "yarnOf(): 7", x.yarnOf(0, 3), 7);
        Check.link(x, 1, 2);
        EDGES.refused(x, "link(): 1 ahead of 7", x.link(1, 1), 1);
        EDGES.refused(x, "link(): 1 ahead of 7, no STITCH", x.link(1, 4), 1);
        EDGES.refused(x, "link(): 7", x.link(1, 2), 7);
        EDGES.none(x, "fewAt(): 1 ahead of 6", x.fewAt(9, 9), 1);
        EDGES.none(x, "fewAt(): 6", x.fewAt(9, 2), 6);
        EDGES.none(x, "followed(): 1 ahead of 6", x.followed(4), 1);
        EDGES.none(x, "followed(): 6", x.followed(3), 6);
        EDGES.none(x, "lasts(): 1 ahead of 6, no COLOUR", x.lasts(2, 9999), 1);
        EDGES.none(x, "lasts(): 1 ahead of 6, YARN", x.lasts(0, 10000), 1);
        FewEnds one = Check.knitted("size 1 1;colour a shows 1 yarn 1;row a;");
        EDGES.none(one, "best(): 1 ahead of 6", one.best(3), 1);
        EDGES.none(one, "best(): 6", one.best(2), 6);
        Check.feed(one, "size 0");
        EDGES.none(one, "chart(): 1 ahead of 9", one.chart(21), 1);
        EDGES.none(one, "directions(): 1 ahead of 9", one.directions(21), 1);
        EDGES.none(one, "directions(): 9", one.directions(6), 9);
    }

    private static void fill(FewEnds x, int tray, long... numbers) {
        x.tray(tray, 3, numbers.length);
        for (int k = 0; k < numbers.length; k++) {
            x.write(tray, k, numbers[k]);
        }
    }

    private static void firstOfSeveralInPlans() {
        EDGES.says(23, "(1, 2, 3, 5: no such STITCH, the second not later; 7: one can't be, or comes or goes already; "
            + "in this order)");
        FewEnds x = Check.knitted("size 4 1;" + AB + "row a b b a;carry 1 cost 0;");
        fill(x, 0, 0, 3, 1, 2, 9, 9);
        fill(x, 1, 1, 2, 1, 2);
        fill(x, 2, 9);
        EDGES.refused(x, "1 ahead of 2", x.plan(3, 31), 1);
        EDGES.refused(x, "1 ahead of 3", x.plan(2, -1), 1);
        EDGES.refused(x, "1 ahead of 5", x.plan(0, 31), 1);
        EDGES.refused(x, "2 ahead of 3", x.plan(3, 30), 2);
        EDGES.refused(x, "2, of no couples", x.plan(3, 0), 2);
        EDGES.refused(x, "3 ahead of 5, and of 7", x.plan(0, 4), 3);
        EDGES.refused(x, "3 ahead of 5, half a couple", x.plan(2, 1), 3);
        EDGES.refused(x, "5 of the last ahead of 7 of the first", x.plan(0, 3), 5);
        EDGES.refused(x, "7 of one that can't be", x.plan(0, 2), 7);
        EDGES.refused(x, "7 of one that goes already", x.plan(1, 2), 7);
        fill(x, 1, 1, 2, 1, 2, 3, 4);
        EDGES.refused(x, "5 of the last ahead of 7 of one that goes already", x.plan(1, 3), 5);
        EDGES.good(x, "0 of the first alone", x.plan(1, 1));
        EDGES.links(x, -1, 2, -1, -1);
        EDGES.says(8, "(1: below 0, too; 2; 8; 3; asked in this order)");
        x.tray(2, 0, 1);
        EDGES.refused(x, "8 ahead of 3, though it is the greater one", x.pour(0, 99, 2, 99, 99), 8);
    }

    // ---- nothing else changes

    /** An object with something of all that an object can hold; 8 STITCHES, 3 COLOURS, 3 MARKS. */
    private static FewEnds rich() {
        FewEnds x = Check.knitted("size 4 2;colour w shows 2 yarn 3;colour b shows 1 yarn 2;colour g shows 9 yarn 9;"
            + "row w b b w;row w w b w;end 10;carry 1 cost 1;wait 1 cost 3;strand 1;balls 2 cost 7;alter 0;");
        fill(x, 0, 1, 2, 0, 3);
        fill(x, 2, 4, 6, 4, 9);
        x.tray(1, 0, 3);
        x.mark();
        Check.link(x, 1, 2);
        x.mark();
        Check.directions(x, "knit w 1;knit b 2;cut w;knit w 2;knit b 1;knit w 2;");
        Check.link(x, 3, 4, 4, 6);
        x.mark();
        x.worth();
        x.follow();
        x.few(2);
        Check.directions(x, "knit w 1;knit b 2;");
        Check.directions(x, "knit x 1;");
        x.unlink(4);
        Check.feed(x, "size 1 1;colour q shows 1 yarn 1;row q;end 77;");
        return x;
    }

    /** Of one COLOUR, with ENDS that cost nothing, and nothing FOLLOWED. */
    private static FewEnds poor() {
        FewEnds x = Check.knitted("size 2 1;colour a shows 0 yarn 1;row a a;end 0;");
        x.link(0, 1);
        Check.feed(x, "size 1 1;");
        return x;
    }

    private static void compare(Supplier<FewEnds> made, String call, Call asked, boolean tapeToo) {
        FewEnds one = made.get();
        FewEnds another = made.get();
        asked.on(one);
        List<String> got = tapeToo ? Snapshot.of(one) : Snapshot.withoutTape(one);
        List<String> due = tapeToo ? Snapshot.of(another) : Snapshot.withoutTape(another);
        for (int k = 0; k < due.size(); k++) {
            if (!got.get(k).equals(due.get(k))) {
                System.out.println("behind " + call + ": " + got.get(k) + "; without it: " + due.get(k));
            }
        }
        EDGES.due("what changed behind " + call, got.equals(due), true);
    }

    /** It is refused with that STATUS, gives NONE or false, and changes nothing. */
    private static void refused(Supplier<FewEnds> made, int status, String call, Call asked) {
        FewEnds x = made.get();
        long got = asked.on(x);
        boolean isFalse = call.matches("(tray|write|pour|link|unlink|plan|worth|take)\\(.*");
        EDGES.due(call, got, isFalse ? 0 : FewEnds.NONE);
        EDGES.due("status() of " + call, x.status(), status);
        compare(made, call, asked, status != 9);
    }

    private static void refusedChangesNothing() {
        EDGES.says(2, "With another STATUS than 0 a call gives NONE, or false, and changes nothing else");
        refusedOfTrays();
        refusedOfCharts();
        refusedOfPlans();
        refusedOfLeast();
        refusedOfPictures();
        refusedOfRest();
        refusedOfNew();
    }

    private static void refusedOfTrays() {
        Supplier<FewEnds> rich = StatusEdgeTest::rich;
        refused(rich, 1, "tray(4, 0, 1)", x -> bit(x.tray(4, 0, 1)));
        refused(rich, 1, "tray(0, 4, 1)", x -> bit(x.tray(0, 4, 1)));
        refused(rich, 1, "tray(0, 0, 61)", x -> bit(x.tray(0, 0, 61)));
        refused(rich, 1, "tray(3, 0, -1)", x -> bit(x.tray(3, 0, -1)));
        refused(rich, 1, "write(4, 0, 5)", x -> bit(x.write(4, 0, 5)));
        refused(rich, 2, "write(3, 0, 5)", x -> bit(x.write(3, 0, 5)));
        refused(rich, 3, "write(0, 4, 5)", x -> bit(x.write(0, 4, 5)));
        refused(rich, 3, "write(0, -1, 5)", x -> bit(x.write(0, -1, 5)));
        refused(rich, 1, "read(4, 0)", x -> x.read(4, 0));
        refused(rich, 2, "read(3, 0)", x -> x.read(3, 0));
        refused(rich, 3, "read(0, 4)", x -> x.read(0, 4));
        refused(rich, 1, "pour(0, 0, 4, 0, 1)", x -> bit(x.pour(0, 0, 4, 0, 1)));
        refused(rich, 1, "pour(0, 0, 2, 0, -1)", x -> bit(x.pour(0, 0, 2, 0, -1)));
        refused(rich, 2, "pour(0, 0, 3, 0, 1)", x -> bit(x.pour(0, 0, 3, 0, 1)));
        refused(rich, 8, "pour(0, 0, 1, 0, 1)", x -> bit(x.pour(0, 0, 1, 0, 1)));
        refused(rich, 3, "pour(0, 0, 2, 1, 4)", x -> bit(x.pour(0, 0, 2, 1, 4)));
        refused(rich, 3, "pour(0, 1, 2, 0, 4)", x -> bit(x.pour(0, 1, 2, 0, 4)));
    }

    private static void refusedOfCharts() {
        Supplier<FewEnds> rich = StatusEdgeTest::rich;
        refused(rich, 1, "chart(-1)", x -> x.chart(-1));
        refused(rich, 1, "chart(61)", x -> x.chart(61));
        refused(rich, 1, "directions(-1)", x -> x.directions(-1));
        refused(rich, 1, "directions(61)", x -> x.directions(61));
        refused(rich, 1, "told(15)", x -> x.told(15));
        refused(rich, 1, "colour(3, 0)", x -> x.colour(3, 0));
        refused(rich, 1, "stitch(8, 0)", x -> x.stitch(8, 0));
        refused(rich, 1, "at(4, 0)", x -> x.at(4, 0));
        refused(rich, 1, "lawful(1, 1)", x -> x.lawful(1, 1));
        refused(rich, 1, "cost(1, 1)", x -> x.cost(1, 1));
        refused(rich, 7, "cost(0, 3)", x -> x.cost(0, 3));
        refused(rich, 1, "yarnOf(1, 1)", x -> x.yarnOf(1, 1));
        refused(rich, 7, "yarnOf(0, 3)", x -> x.yarnOf(0, 3));
    }

    private static void refusedOfPlans() {
        Supplier<FewEnds> rich = StatusEdgeTest::rich;
        refused(rich, 1, "link(4, 8)", x -> bit(x.link(4, 8)));
        refused(rich, 7, "link(3, 4)", x -> bit(x.link(3, 4)));
        refused(rich, 7, "link(0, 3)", x -> bit(x.link(0, 3)));
        refused(rich, 7, "link(0, 4)", x -> bit(x.link(0, 4)));
        refused(rich, 7, "link(3, 6)", x -> bit(x.link(3, 6)));
        refused(rich, 1, "unlink(8)", x -> bit(x.unlink(8)));
        refused(rich, 6, "unlink(4)", x -> bit(x.unlink(4)));
        refused(rich, 1, "plan(0, 31)", x -> bit(x.plan(0, 31)));
        refused(rich, 2, "plan(3, 0)", x -> bit(x.plan(3, 0)));
        refused(rich, 3, "plan(0, 3)", x -> bit(x.plan(0, 3)));
        refused(rich, 5, "plan(2, 2)", x -> bit(x.plan(2, 2)));
        refused(rich, 7, "plan(0, 2)", x -> bit(x.plan(0, 2)));
        refused(rich, 1, "goes(8)", x -> x.goes(8));
        refused(rich, 6, "goes(7)", x -> x.goes(7));
        refused(rich, 1, "comes(8)", x -> x.comes(8));
        refused(rich, 6, "comes(0)", x -> x.comes(0));
        refused(rich, 1, "threads(3)", x -> x.threads(3));
        refused(rich, 1, "thread(9, 0)", x -> x.thread(9, 0));
        refused(rich, 1, "hangs(2)", x -> x.hangs(2));
        refused(rich, 1, "tangle(2)", x -> x.tangle(2));
        refused(rich, 1, "yarn(3)", x -> x.yarn(3));
    }

    private static void refusedOfLeast() {
        Supplier<FewEnds> rich = StatusEdgeTest::rich;
        Supplier<FewEnds> poor = StatusEdgeTest::poor;
        refused(rich, 1, "least(3)", x -> x.least(3));
        refused(rich, 1, "fewest(3)", x -> x.fewest(3));
        refused(poor, 6, "worth()", x -> bit(x.worth()));
        refused(rich, 1, "rowAlone(2)", x -> x.rowAlone(2));
        refused(rich, 1, "saves(0, 0)", x -> x.saves(0, 0));
        refused(rich, 1, "saves(8, 0)", x -> x.saves(8, 0));
        refused(rich, 1, "best(3)", x -> x.best(3));
        refused(poor, 6, "best(0)", x -> x.best(0));
        refused(rich, 1, "few(5)", x -> x.few(5));
        refused(rich, 1, "few(0)", x -> x.few(0));
        refused(rich, 1, "fewAt(0, 3)", x -> x.fewAt(0, 3));
        refused(rich, 6, "fewAt(4, 0)", x -> x.fewAt(4, 0));
    }

    private static void refusedOfPictures() {
        Supplier<FewEnds> rich = StatusEdgeTest::rich;
        refused(rich, 1, "patches(3)", x -> x.patches(3));
        refused(rich, 1, "patch(8, 0)", x -> x.patch(8, 0));
        refused(rich, 1, "machine(6)", x -> x.machine(6));
        refused(rich, 1, "lessened(0, 0)", x -> x.lessened(0, 0));
        refused(rich, 1, "behind(8)", x -> x.behind(8));
        refused(rich, 1, "lasts(0, -1)", x -> x.lasts(0, -1));
        refused(rich, 6, "lasts(0, 9999)", x -> x.lasts(0, 9999));
        refused(rich, 1, "window(0, 4, 0, 0)", x -> x.window(0, 4, 0, 0));
        refused(rich, 1, "window(1, 0, 0, 0)", x -> x.window(1, 0, 0, 0));
        refused(rich, 1, "seam(2)", x -> x.seam(2));
        refused(rich, 1, "buy(0, 0)", x -> x.buy(0, 0));
        refused(rich, 1, "runsOut(0)", x -> x.runsOut(0));
    }

    private static void refusedOfRest() {
        Supplier<FewEnds> rich = StatusEdgeTest::rich;
        Supplier<FewEnds> poor = StatusEdgeTest::poor;
        refused(poor, 6, "follow()", FewEnds::follow);
        refused(rich, 1, "followed(4)", x -> x.followed(4));
        refused(poor, 6, "followed(0)", x -> x.followed(0));
        refused(poor, 6, "take()", x -> bit(x.take()));
        refused(rich, 4, "mark()", FewEnds::mark);
        refused(poor, 6, "back()", FewEnds::back);
        Supplier<FewEnds> gone = () -> {
            FewEnds x = rich();
            x.follow();
            x.chart(0);
            Check.chart(x, "size 2 1;colour w shows 1 yarn 1;row w w;");
            x.link(0, 1);
            return x;
        };
        refused(gone, 6, "follow() on another CHART", FewEnds::follow);
        refused(gone, 6, "take() on another CHART", x -> bit(x.take()));
    }

    private static void refusedOfNew() {
        Supplier<FewEnds> made = FewEnds::new;
        refused(made, 6, "worth() of a new object", x -> bit(x.worth()));
        refused(made, 6, "best(0) of a new object", x -> x.best(0));
        refused(made, 6, "fewAt(0, 0) of a new object", x -> x.fewAt(0, 0));
        refused(made, 6, "sewn() of a new object", FewEnds::sewn);
        refused(made, 6, "sewnCost() of a new object", FewEnds::sewnCost);
        refused(made, 6, "matched() of a new object", FewEnds::matched);
        refused(made, 6, "follow() of a new object", FewEnds::follow);
        refused(made, 6, "followed(0) of a new object", x -> x.followed(0));
        refused(made, 6, "take() of a new object", x -> bit(x.take()));
        refused(made, 6, "back() of a new object", FewEnds::back);
        refused(made, 1, "stitch(0, 0) of a new object", x -> x.stitch(0, 0));
        refused(made, 2, "read(0, 0) of a new object", x -> x.read(0, 0));
        refused(made, 1, "chart(1) of a new object", x -> x.chart(1));
        refused(made, 1, "directions(1) of a new object", x -> x.directions(1));
    }

    private static void faultChangesTheTape() {
        EDGES.says(10, "(but chart(), directions() with 9 the tape, and what fault() tells)");
        Supplier<FewEnds> rich = StatusEdgeTest::rich;
        Supplier<FewEnds> poor = StatusEdgeTest::poor;
        List<Supplier<FewEnds>> all = List.of(rich, poor);
        for (Supplier<FewEnds> made : all) {
            refused(made, 9, "chart(0)", x -> x.chart(0));
            refused(made, 9, "chart(9) without its ROWS", x -> x.chart(9));
            refused(made, 9, "directions(9) of a CHART", x -> x.directions(9));
            FewEnds x = made.get();
            x.chart(9);
            EDGES.due("fault(0) behind it", x.fault(0), 8);
            EDGES.due("fault(1) behind it", x.fault(1), 9);
            EDGES.due("feed(): the tape is empty", x.feed(0, 0, 0, 0, 0), 20);
            FewEnds y = made.get();
            y.directions(9);
            EDGES.due("fault(0) of directions() behind it", y.fault(0), 2);
            EDGES.due("fault(1) of directions() behind it", y.fault(1), 0);
            EDGES.due("feed(): the tape is empty behind directions()", y.feed(0, 0, 0, 0, 0), 20);
        }
        // All of another CHART was read ahead of the FAULT.
        Call late = x -> Check.chart(x, "size 8 6;colour q shows 9 yarn 99;" + "row q q q q q q q q;".repeat(6)
            + "round;end 1;carry 1 cost 1;-");
        Supplier<FewEnds> empty = () -> {
            FewEnds x = rich();
            x.chart(0);
            return x;
        };
        refused(empty, 9, "a large CHART with a FAULT at its end", late);
        refused(empty, 9, "DIRECTIONS with a FAULT at their end",
            x -> Check.directions(x, "cut w;cut b;loop 2;knit b 1;end;cut"));
    }

    /** What only asks leaves all as it is, the FRACTION too. */
    private static void askingChangesNothing() {
        EDGES.says(41, "(Nothing is changed.)");
        Supplier<FewEnds> rich = StatusEdgeTest::rich;
        List<Call> asking = List.of(x -> x.status(), FewEnds::top, FewEnds::bottom, x -> x.fault(0), x -> x.fault(7),
            x -> x.read(0, 0), x -> x.told(0), x -> x.colour(0, 2), x -> x.stitch(0, 0), x -> x.at(0, 0),
            x -> x.lawful(0, 1), x -> x.cost(3, 4), x -> x.yarnOf(3, 4), x -> x.goes(3), x -> x.comes(4),
            x -> x.threads(-1), x -> x.thread(0, 4), x -> x.hangs(0), x -> x.tangle(0), FewEnds::planCost,
            FewEnds::longest, x -> x.yarn(0));
        for (int k = 0; k < asking.size(); k++) {
            compare(rich, "asking call " + k, asking.get(k), true);
        }
        List<Call> reckoning = List.of(x -> x.least(-1), x -> x.fewest(-1), FewEnds::gap, x -> x.rowAlone(1),
            FewEnds::other, x -> x.saves(0, 1), x -> x.best(0), x -> x.few(2), x -> x.fewAt(0, 0), FewEnds::sewn,
            FewEnds::sewnCost, x -> x.patches(-1), x -> x.patch(0, 0), x -> x.machine(1), x -> x.lessened(0, 1),
            x -> x.behind(1), FewEnds::thickest, FewEnds::mirrored, FewEnds::mirrorLeast, x -> x.lasts(0, 1),
            x -> x.window(1, 2, 0, 1), x -> x.seam(0), FewEnds::matched, x -> x.buy(0, 5), x -> x.runsOut(5),
            x -> x.followed(0));
        for (int k = 0; k < reckoning.size(); k++) {
            compare(rich, "reckoning call " + k, reckoning.get(k), true);
        }
    }
}
