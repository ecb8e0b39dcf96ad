import java.util.ArrayList;
import java.util.List;

/**
 * All that an object tells, call by call, so that two objects can be compared. It is taken once, at the
 * end: it TAKES what was FOLLOWED, goes back to all MARKS, and reads the tape as a CHART.
 */
final class Snapshot {
    private final FewEnds x;
    private final List<String> rows = new ArrayList<>();

    private Snapshot(FewEnds of) {
        x = of;
    }

    static List<String> of(FewEnds x) {
        Snapshot s = new Snapshot(x);
        s.fractionAndFault();
        s.trays();
        s.reckoned();
        s.chart();
        s.plan();
        s.taken();
        s.directions();
        s.marks();
        s.tape();
        return s.rows;
    }

    /** The same without what chart() and directions() with a FAULT may change. */
    static List<String> withoutTape(FewEnds x) {
        List<String> rows = of(x);
        rows.removeIf(row -> row.startsWith("fault") || row.startsWith("tape"));
        return rows;
    }

    private void told(String what, long answer) {
        rows.add(what + " = " + answer + ", status " + x.status());
    }

    private void fractionAndFault() {
        rows.add("top " + x.top());
        rows.add("bottom " + x.bottom());
        rows.add("fault 0: " + x.fault(0));
        rows.add("fault 1: " + x.fault(1));
    }

    private void trays() {
        for (int tray = 0; tray < 4; tray++) {
            for (int place = 0; place < 5; place++) {
                told("read(" + tray + ", " + place + ")", x.read(tray, place));
            }
        }
    }

    private void reckoned() {
        for (int k = 0; k < 4; k++) {
            for (int what = 0; what < 3; what++) {
                told("fewAt(" + k + ", " + what + ")", x.fewAt(k, what));
            }
            told("followed(" + k + ")", x.followed(k));
        }
    }

    private void chart() {
        for (int what = 0; what < 15; what++) {
            told("told(" + what + ")", x.told(what));
        }
        for (int colour = 0; colour < 5; colour++) {
            told("colour(" + colour + ", 0)", x.colour(colour, 0));
            told("colour(" + colour + ", 1)", x.colour(colour, 1));
        }
        for (int i = 0; i < 9; i++) {
            told("stitch(" + i + ", 0)", x.stitch(i, 0));
            told("stitch(" + i + ", 1)", x.stitch(i, 1));
        }
        told("least(NONE)", x.least(-1));
        told("best(0)", x.best(0));
    }

    private void plan() {
        for (int i = 0; i < 9; i++) {
            told("goes(" + i + ")", x.goes(i));
            told("comes(" + i + ")", x.comes(i));
        }
        told("planCost()", x.planCost());
    }

    private void taken() {
        told("take()", x.take() ? 1 : 0);
        for (int i = 0; i < 8; i++) {
            told("taken, goes(" + i + ")", x.goes(i));
        }
    }

    private void directions() {
        told("follow()", x.follow());
        told("what it tells, followed(0)", x.followed(0));
        told("what it tells, followed(3)", x.followed(3));
    }

    private void marks() {
        for (int k = 0; k < 4; k++) {
            told("back()", x.back());
            told("back, told(0)", x.told(0));
            told("back, told(3)", x.told(3));
            for (int i = 0; i < 4; i++) {
                told("back, goes(" + i + ")", x.goes(i));
            }
            told("back, follow()", x.follow());
            told("back, followed(3)", x.followed(3));
        }
    }

    private void tape() {
        int fed = x.feed(0x20202020, 0x20202020, 0x20202020, 0x20202020, 0x20202020);
        rows.add("tape: " + fed);
        rows.add("tape: chart() " + x.chart(fed) + ", fault " + x.fault(0) + " at " + x.fault(1));
        for (int what = 0; what < 5; what++) {
            rows.add("tape: told(" + what + ") " + x.told(what));
        }
    }
}
