/** Promises 1 to 8: a new object, STATUS, FRACTION, TRAYS. */
public final class TrayTest {
    private static final Check CHECK = new Check();

    public static void main(String[] args) {
        newObject();
        status();
        fraction();
        tray();
        write();
        read();
        pour();
        CHECK.end("TrayTest");
    }

    private static void newObject() {
        FewEnds x = new FewEnds();
        CHECK.due(1, "status() of a new object", x.status(), 0);
        CHECK.due(1, "top() of a new object", x.top(), 0);
        CHECK.due(1, "bottom() of a new object", x.bottom(), 1);
        int[] told = {0, 0, 0, 10, 5, 0, 0, 3, 1, 48, 0, 1, 5, 5, 0};
        for (int what = 0; what < told.length; what++) {
            CHECK.good(1, x, "told(" + what + ") of a new object", x.told(what), told[what]);
        }
        for (int tray = 0; tray < 4; tray++) {
            CHECK.none(1, x, "read(" + tray + ", 0) of a new object", x.read(tray, 0), 2);
        }
        CHECK.good(1, x, "threads(NONE)", x.threads(-1), 0);
        CHECK.good(1, x, "planCost()", x.planCost(), 0);
        CHECK.none(1, x, "follow()", x.follow(), 6);
        CHECK.none(1, x, "followed(0)", x.followed(0), 6);
        CHECK.none(1, x, "back()", x.back(), 6);
        CHECK.none(1, x, "fewAt(0, 0)", x.fewAt(0, 0), 6);
        CHECK.none(1, x, "chart(1): an empty tape", x.chart(1), 1);
        CHECK.none(1, x, "stitch(0, 0)", x.stitch(0, 0), 1);
        CHECK.none(1, x, "colour(0, 0)", x.colour(0, 0), 1);
        CHECK.due(1, "NONE", FewEnds.NONE, -1);
    }

    private static void status() {
        FewEnds x = new FewEnds();
        x.read(0, 0);
        x.top();
        x.bottom();
        x.feed(0, 0, 0, 0, 0);
        x.fault(0);
        CHECK.due(2, "status() behind calls that have none", x.status(), 2);
        CHECK.due(2, "status() once more", x.status(), 2);
        x.clear();
        CHECK.due(2, "status() behind clear()", x.status(), 0);
    }

    private static void fraction() {
        FewEnds x = Check.knitted("size 2 1;colour a shows 0 yarn 1;row a a;");
        CHECK.good(3, x, "worth()", x.worth());
        CHECK.due(3, "top()", x.top(), 1);
        CHECK.due(4, "bottom()", x.bottom(), 2);
        Check.chart(x, "size 1 1;colour a shows 0 yarn 1;row a;end 0;");
        CHECK.refused(3, x, "worth() of a COST of 0", x.worth(), 6);
        CHECK.due(3, "top(), as told latest", x.top(), 1);
        CHECK.due(4, "bottom(), as told latest", x.bottom(), 2);
    }

    private static void tray() {
        FewEnds x = new FewEnds();
        CHECK.refused(5, x, "tray(-1, 0, 1)", x.tray(-1, 0, 1), 1);
        CHECK.refused(5, x, "tray(4, 0, 1)", x.tray(4, 0, 1), 1);
        CHECK.refused(5, x, "tray(0, -1, 1)", x.tray(0, -1, 1), 1);
        CHECK.refused(5, x, "tray(0, 4, 1)", x.tray(0, 4, 1), 1);
        CHECK.refused(5, x, "tray(0, 0, -1)", x.tray(0, 0, -1), 1);
        CHECK.refused(5, x, "tray(0, 0, 61)", x.tray(0, 0, 61), 1);
        CHECK.none(5, x, "read(0, 0): still missing", x.read(0, 0), 2);
        CHECK.good(5, x, "tray(3, 3, 60)", x.tray(3, 3, 60));
        CHECK.good(5, x, "read(3, 59)", x.read(3, 59), 0);
        CHECK.none(5, x, "read(3, 60)", x.read(3, 60), 3);
        x.write(3, 59, 7);
        CHECK.good(5, x, "tray(3, 0, 60) again", x.tray(3, 0, 60));
        CHECK.good(5, x, "read(3, 59): 0s", x.read(3, 59), 0);
        CHECK.good(5, x, "tray(3, 0, 0)", x.tray(3, 0, 0));
        CHECK.none(5, x, "read(3, 0) of an empty TRAY", x.read(3, 0), 3);
    }

    private static void write() {
        FewEnds x = new FewEnds();
        long[] cut = {-1, -1, -1, 0x12345678FFFFFFFFL};
        long[] high = {-128, 0x80, 0x80, 0x80};
        long[] wide = {0, 0, -0x80000000L, 0x80000000L};
        long[] middle = {0, -0x8000, 0x8000, 0x8000};
        for (int sort = 0; sort < 4; sort++) {
            x.tray(0, sort, 4);
            CHECK.good(6, x, "write() of sort " + sort, x.write(0, 3, 0x12345678FFFFFFFFL));
            CHECK.good(6, x, "read() of sort " + sort, x.read(0, 3), cut[sort]);
            x.write(0, 0, 0x80);
            CHECK.good(6, x, "read() of 128, sort " + sort, x.read(0, 0), high[sort]);
            x.write(0, 1, 0x8000);
            CHECK.good(6, x, "read() of 32768, sort " + sort, x.read(0, 1), middle[sort]);
            x.write(0, 2, 0x80000000L);
            CHECK.good(6, x, "read() of 2^31, sort " + sort, x.read(0, 2), wide[sort]);
        }
        CHECK.refused(6, x, "write(-1, 0, 1)", x.write(-1, 0, 1), 1);
        CHECK.refused(6, x, "write(4, 0, 1)", x.write(4, 0, 1), 1);
        CHECK.refused(6, x, "write(1, -1, 1) of a TRAY that is missing", x.write(1, -1, 1), 2);
        CHECK.refused(6, x, "write(0, -1, 1)", x.write(0, -1, 1), 3);
        CHECK.refused(6, x, "write(0, 4, 1)", x.write(0, 4, 1), 3);
    }

    private static void read() {
        FewEnds x = new FewEnds();
        x.tray(2, 3, 2);
        x.write(2, 1, -1);
        CHECK.good(7, x, "read() of -1", x.read(2, 1), -1);
        x.write(2, 1, Long.MIN_VALUE);
        CHECK.good(7, x, "read() of the least long", x.read(2, 1), Long.MIN_VALUE);
        CHECK.good(7, x, "read(2, 0)", x.read(2, 0), 0);
        CHECK.none(7, x, "read(-1, 0)", x.read(-1, 0), 1);
        CHECK.none(7, x, "read(4, 0)", x.read(4, 0), 1);
        CHECK.none(7, x, "read(0, 5)", x.read(0, 5), 2);
        CHECK.none(7, x, "read(2, 2)", x.read(2, 2), 3);
        CHECK.none(7, x, "read(2, -1)", x.read(2, -1), 3);
    }

    private static FewEnds twoTrays() {
        FewEnds x = new FewEnds();
        x.tray(0, 1, 6);
        x.tray(1, 1, 4);
        x.tray(2, 2, 4);
        for (int k = 0; k < 6; k++) {
            x.write(0, k, 10 + k);
        }
        return x;
    }

    private static void pour() {
        FewEnds x = twoTrays();
        CHECK.good(8, x, "pour(0, 2, 1, 1, 3)", x.pour(0, 2, 1, 1, 3));
        long[] one = {0, 12, 13, 14};
        for (int k = 0; k < 4; k++) {
            CHECK.good(8, x, "read(1, " + k + ")", x.read(1, k), one[k]);
        }
        CHECK.good(8, x, "pour(0, 0, 0, 2, 4) onto itself", x.pour(0, 0, 0, 2, 4));
        long[] forth = {10, 11, 10, 11, 12, 13};
        for (int k = 0; k < 6; k++) {
            CHECK.good(8, x, "poured on, read(0, " + k + ")", x.read(0, k), forth[k]);
        }
        CHECK.good(8, x, "pour(0, 2, 0, 0, 4) onto itself", x.pour(0, 2, 0, 0, 4));
        long[] back = {10, 11, 12, 13, 12, 13};
        for (int k = 0; k < 6; k++) {
            CHECK.good(8, x, "poured back, read(0, " + k + ")", x.read(0, k), back[k]);
        }
        CHECK.good(8, x, "pour() of nothing at the ends", x.pour(0, 6, 1, 4, 0));
        pourWrong();
    }

    private static void pourWrong() {
        FewEnds x = twoTrays();
        CHECK.refused(8, x, "pour(-1, ..)", x.pour(-1, 0, 1, 0, 1), 1);
        CHECK.refused(8, x, "pour(.., 4, ..)", x.pour(0, 0, 4, 0, 1), 1);
        CHECK.refused(8, x, "pour() from -1", x.pour(3, -1, 1, 0, 1), 1);
        CHECK.refused(8, x, "pour() to -1", x.pour(3, 0, 1, -1, 1), 1);
        CHECK.refused(8, x, "pour() of -1", x.pour(3, 0, 1, 0, -1), 1);
        CHECK.refused(8, x, "pour() from a missing one", x.pour(3, 99, 2, 0, 1), 2);
        CHECK.refused(8, x, "pour() to a missing one", x.pour(0, 99, 3, 0, 1), 2);
        CHECK.refused(8, x, "pour() of unlike sorts", x.pour(0, 99, 2, 0, 1), 8);
        CHECK.refused(8, x, "pour(0, 4, 1, 0, 3)", x.pour(0, 4, 1, 0, 3), 3);
        CHECK.refused(8, x, "pour(0, 0, 1, 2, 3)", x.pour(0, 0, 1, 2, 3), 3);
        CHECK.refused(8, x, "pour(0, 7, 1, 0, 0)", x.pour(0, 7, 1, 0, 0), 3);
        int most = Integer.MAX_VALUE;
        CHECK.refused(8, x, "pour() of the most", x.pour(0, 1, 1, 0, most), 3);
        CHECK.refused(8, x, "pour() from the last", x.pour(0, most, 1, 0, most), 3);
        for (int k = 0; k < 4; k++) {
            CHECK.good(8, x, "nothing came to " + k, x.read(1, k), 0);
        }
    }
}
