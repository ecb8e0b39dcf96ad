/** Edges of DIRECTIONS, of what is FOLLOWED and TAKEN, and of MARKS: promises 11, 12 and 62 to 66. */
public final class DirectionsEdgeTest {
    private static final Edges EDGES = new Edges();
    private static final int WELL = 0;
    private static final int SHORT = 1;
    private static final int WRONG = 2;
    private static final int BROKEN = 3;
    private static final int LONG = 4;
    private static final int LEFT = 5;
    private static final String AB = "colour a shows 1 yarn 1;colour b shows 2 yarn 3;";
    private static final String ABBA = "size 4 1;" + AB + "row a b b a;carry 2 cost 3;";
    private static final String KNIT_ABBA = "knit a 1;knit b 2;knit a 1;";

    public static void main(String[] args) {
        length();
        noneAtFirst();
        tokens();
        steps();
        names();
        knitNumbers();
        loopNumbers();
        missingEnds();
        fortySteps();
        threeLoops();
        oldOnesStay();
        newBalls();
        cutNothing();
        loopsAreDone();
        wellOrShort();
        wrong();
        broken();
        longer();
        left();
        leftByLoops();
        toldOf();
        followedLatest();
        taken();
        takenSince();
        marksAtMost();
        marksKeep();
        marksLeave();
        marksGone();
        EDGES.end("DirectionsEdgeTest");
    }

    // ---- what the tests share

    private static FewEnds abba() {
        return Check.knitted(ABBA);
    }

    /** 48 STITCHES of COLOUR a. */
    private static FewEnds largest() {
        return Check.knitted("size 8 6;" + AB + "row a a a a a a a a;".repeat(6));
    }

    private static void good(String text, int many) {
        FewEnds x = abba();
        EDGES.good(x, "directions " + text, Check.directions(x, text), many);
        EDGES.due("fault(0) of " + text, x.fault(0), 0);
        EDGES.due("fault(1) of " + text, x.fault(1), -1);
    }

    /** DIRECTIONS with a FAULT, whose place is told by a ^ that is no part of them. */
    private static void fault(String marked, int kind) {
        int place = marked.indexOf('^');
        FewEnds x = abba();
        long got = Check.directions(x, marked.substring(0, place) + marked.substring(place + 1));
        EDGES.none(x, "directions " + marked, got, 9);
        EDGES.due("fault(0) of " + marked, x.fault(0), kind);
        EDGES.due("fault(1) of " + marked, x.fault(1), place);
    }

    /** How it ends, and what is told then. */
    private static void follows(FewEnds x, String text, int outcome, long... told) {
        if (Check.directions(x, text) == -1) {
            throw new IllegalStateException("FAULT " + x.fault(0) + " at " + x.fault(1) + " of " + text);
        }
        EDGES.good(x, "follow() of " + text, x.follow(), outcome);
        EDGES.row(x, "followed, of " + text, x::followed, told);
    }

    // ---- the TEXT

    private static void length() {
        EDGES.says(11, "DIRECTIONS are a TEXT of at most 300 bytes");
        FewEnds x = abba();
        Check.feed(x, "knit a 1;" + " ".repeat(351));
        EDGES.none(x, "directions(301)", x.directions(301), 1);
        EDGES.good(x, "directions(300): the tape stayed", x.directions(300), 1);
        EDGES.says(11, "Likewise DIRECTIONS: how many STEPS (1: above 300, too; 9).");
        EDGES.none(x, "directions(1): the tape is empty then", x.directions(1), 1);
        Check.feed(x, "cut a;" + " ".repeat(288) + "cut b");
        for (int n : new int[] {Integer.MIN_VALUE, -1, 301, Integer.MAX_VALUE}) {
            EDGES.none(x, "directions(" + n + ")", x.directions(n), 1);
        }
        EDGES.none(x, "directions(299): with a FAULT", x.directions(299), 9);
        EDGES.due("fault(1): the text's length", x.fault(1), 299);
        EDGES.none(x, "directions(1): the tape is empty with a FAULT", x.directions(1), 1);
        Check.feed(x, "cut a;");
        EDGES.none(x, "directions(21): more than the tape has", x.directions(21), 1);
        EDGES.good(x, "directions(6)", x.directions(6), 1);
        Check.feed(x, "cut a;cut b;        ");
        EDGES.good(x, "directions(20): all of the tape", x.directions(20), 2);
    }

    private static void noneAtFirst() {
        EDGES.says(62, "of such TOKENS (none at first)");
        FewEnds x = new FewEnds();
        EDGES.none(x, "follow() of a new object", x.follow(), 6);
        FewEnds y = abba();
        EDGES.none(y, "follow() of a new CHART", y.follow(), 6);
        EDGES.says(62, "FOLLOWED: 0 to 5 (6: no DIRECTIONS).");
        Check.directions(y, "knit");
        EDGES.none(y, "follow() behind a FAULT", y.follow(), 6);
        y.directions(301);
        EDGES.none(y, "follow() behind a STATUS of 1", y.follow(), 6);
        Check.directions(y, "cut a;");
        EDGES.good(y, "follow()", y.follow(), SHORT);
        EDGES.says(11, "DIRECTIONS: {STEP}.");
        EDGES.good(y, "directions(0): no STEP", y.directions(0), 0);
        good(" \n", 0);
        EDGES.good(y, "follow() of no STEP", y.follow(), SHORT);
        EDGES.good(y, "followed(3) of no STEP", y.followed(3), 0);
        EDGES.good(x, "directions(0) without a CHART", x.directions(0), 0);
        EDGES.good(x, "follow() of no STEP and no STITCH", x.follow(), WELL);
    }

    private static void tokens() {
        EDGES.says(12, "FAULTS of it: 1 and 2 as above");
        for (int b = 0; b < 256; b++) {
            boolean isToken = b >= 'a' && b <= 'z' || b >= '0' && b <= '9' || b == ';';
            boolean isBlank = b == 10 || b == 32;
            FewEnds x = abba();
            EDGES.due("directions with a byte of " + b, Check.directions(x, "cut a;" + (char) b), isBlank ? 1 : -1);
            EDGES.due("fault(0) of a byte of " + b, x.fault(0), isBlank ? 0 : isToken ? 2 : 1);
            EDGES.due("fault(1) of a byte of " + b, x.fault(1), isBlank ? -1 : 6);
        }
        good(" \nknit a1;knit\nb2; loop1;end ; cut a ;\n", 4);
        good("knit a 0001;loop 01;end;", 2);
        fault("knit a ^00001;", 1);
        fault("loop ^12345;", 1);
        fault("^12345", 1);
        fault("cut a ^55555", 1);
        fault("cut ^12345", 1);
        fault("knit ^12345", 1);
        fault("knit a 1 ^12345", 1);
        fault("loop 1 ^12345", 1);
        fault("loop 1;^12345", 1);
        fault("loop 1;end ^12345", 1);
    }

    private static void steps() {
        EDGES.says(11, "STEP: knit NAME NUMBER ; or cut NAME ; or loop NUMBER ; {STEP} end ;");
        good("knit a 1;", 1);
        good("cut a;", 1);
        good("loop 1;end;", 1);
        good("loop 1;knit a 1;cut b;loop 2;knit b 1;end;end;cut a;", 6);
        String[] all = {"knit a 1 ;", "cut a ;", "loop 1 ; end ;"};
        for (String step : all) {
            String[] tokens = step.split(" ");
            StringBuilder ahead = new StringBuilder(tokens[0]);
            for (int k = 1; k < tokens.length; k++) {
                fault(ahead + "^", 2);
                for (String other : new String[] {";", "7", "knit", "abcdefghi"}) {
                    boolean isNumber = Character.isDigit(tokens[k].charAt(0)) && other.equals("7");
                    boolean isStep = tokens[k].equals("end") && other.equals("knit");
                    if (!other.equals(tokens[k]) && !isNumber && !isStep) {
                        fault(ahead + " ^" + other, 2);
                    }
                }
                ahead.append(" ").append(tokens[k]);
            }
        }
        for (String word : new String[] {"a", "row", "size", "round", "knits", "cu", "abcdefghi", ";", "1"}) {
            fault("^" + word, 2);
            fault("loop 1;^" + word, 2);
        }
    }

    private static void names() {
        EDGES.says(12, "a NAME is here any WORD of 1 to 8 letters but knit, cut, loop, end");
        for (String word : new String[] {"knit", "cut", "loop", "end", "abcdefghi", "aaaaaaaaaaaa"}) {
            fault("knit ^" + word + " 1;", 2);
            fault("cut ^" + word + ";", 2);
        }
        EDGES.says(12, "3 a NAME that is no COLOUR");
        for (String word : new String[] {"c", "aa", "abcdefgh", "row", "size", "round", "knits", "en"}) {
            fault("knit ^" + word + " 1;", 3);
            fault("cut ^" + word + ";", 3);
        }
        EDGES.says(11, "NAMES are the CHART's COLOURS as it is.");
        FewEnds x = Check.knitted("size 2 1;colour knit shows 1 yarn 1;colour abcdefgh shows 1 yarn 1;row knit abcdefgh;");
        EDGES.good(x, "a NAME of 8 letters", Check.directions(x, "knit abcdefgh 1;"), 1);
        EDGES.none(x, "a COLOUR that is named knit", Check.directions(x, "knit knit 1;"), 9);
        EDGES.due("fault(0) of it", x.fault(0), 2);
        Check.chart(x, ABBA);
        EDGES.none(x, "a NAME of the CHART ahead", Check.directions(x, "cut abcdefgh;"), 9);
        EDGES.due("fault(0) of the CHART ahead", x.fault(0), 3);
        EDGES.good(x, "a NAME of the CHART as it is", Check.directions(x, "cut a;"), 1);
        FewEnds none = new FewEnds();
        EDGES.none(none, "a NAME without a CHART", Check.directions(none, "cut a;"), 9);
        EDGES.due("fault(0) without a CHART", none.fault(0), 3);
        EDGES.good(none, "a loop without a CHART", Check.directions(none, "loop 1;end;"), 1);
    }

    private static void knitNumbers() {
        EDGES.says(11, "knit: so many STITCHES (1 to 48) are knitted");
        good("knit a 1;", 1);
        good("knit a 48;", 1);
        EDGES.says(12, "4 a NUMBER that can't be. 6 a 41st STEP");
        fault("knit a ^0;", 4);
        fault("knit a ^49;", 4);
        fault("knit a ^9999;", 4);
        EDGES.says(62, "knit: so many STITCHES (1 to 48) are knitted with that COLOUR's ball");
        follows(largest(), "knit a 48;", WELL, 48, 1, 20, 1);
        follows(largest(), "knit a 47;", SHORT, 47, 1, 20, 1);
        follows(largest(), "knit a 47;knit a 1;", WELL, 48, 1, 20, 2);
        follows(largest(), "knit a 48;knit a 1;", LONG, 48, 1, 20, 2);
    }

    private static void loopNumbers() {
        EDGES.says(11, "loop n (1 to 48): the STEPS up to its end are done n times");
        good("loop 1;end;", 1);
        good("loop 48;end;", 1);
        fault("loop ^0;end;", 4);
        fault("loop ^49;end;", 4);
        EDGES.says(62, "loop n (1 to 48): the STEPS up to its end are done n times");
        follows(largest(), "loop 1;knit a 1;end;", SHORT, 1, 1, 20, 2);
        follows(largest(), "loop 47;knit a 1;end;", SHORT, 47, 1, 20, 48);
        follows(largest(), "loop 48;knit a 1;end;", WELL, 48, 1, 20, 49);
        follows(largest(), "loop 48;knit a 1;end;knit a 1;", LONG, 48, 1, 20, 50);
        follows(largest(), "loop 7;knit a 7;end;", LONG, 48, 1, 20, 8);
    }

    private static void missingEnds() {
        EDGES.says(12, "(an end without a loop; the text's end ahead of an end: 2;");
        fault("^end;", 2);
        fault("cut a;^end;", 2);
        fault("loop 1;end;^end;", 2);
        fault("loop 1;loop 1;end;end;^end;", 2);
        fault("loop 1;^", 2);
        fault("loop 1; \n^", 2);
        fault("loop 1;loop 1;end;^", 2);
        fault("loop 1;end^", 2);
        fault("loop 1;end ^end;", 2);
        FewEnds x = abba();
        Check.directions(x, "loop 1;loop 1;");
        EDGES.none(x, "an end without a loop in this TEXT", Check.directions(x, "end;"), 9);
        EDGES.good(x, "three loops behind them", Check.directions(x, "loop 1;loop 1;loop 1;end;end;end;"), 3);
    }

    private static void fortySteps() {
        EDGES.says(12, "6 a 41st STEP (at its WORD; end is none)");
        String most = "cut a;".repeat(40);
        good(most, 40);
        fault(most + "^cut a;", 6);
        fault(most + "^cut", 6);
        fault(most + "^knit a 1;", 6);
        fault(most + "^loop 1;end;", 6);
        good("loop 1;" + "cut a;".repeat(39) + "end;", 40);
        fault("loop 1;" + "cut a;".repeat(39) + "^cut a;end;", 6);
        good("loop1;end;".repeat(30), 30);
        good("cut a;".repeat(39) + "loop 1;end;", 40);
        fault(most + "^end;", 2);
        fault(most + "^1", 2);
        fault(most + "^abc", 2);
        // Of one TOKEN the least kind: the 41st STEP is a loop within three others.
        fault("cut a;".repeat(37) + "loop 1;loop 1;loop 1;^loop 1;", 6);
        FewEnds x = abba();
        Check.directions(x, most);
        EDGES.good(x, "40 STEPS behind 40 others", Check.directions(x, most), 40);
        follows(x, most, SHORT, 0, 0, 0, 40);
    }

    private static void threeLoops() {
        EDGES.says(12, "7 a loop within three others (at its WORD)");
        good("loop 1;loop 1;loop 1;cut a;end;end;end;", 4);
        fault("loop 1;loop 1;loop 1;^loop 1;end;end;end;end;", 7);
        fault("loop 1;loop 1;loop 1;cut a;^loop", 7);
        good("loop 1;loop 1;loop 1;end;loop 1;end;end;loop 1;end;end;loop 1;end;", 6);
        fault("cut a;".repeat(36) + "loop 1;loop 1;loop 1;^loop 1;", 7);
    }

    private static void oldOnesStay() {
        EDGES.says(11, "9: the old one stays");
        FewEnds x = abba();
        Check.directions(x, KNIT_ABBA);
        EDGES.none(x, "DIRECTIONS with a FAULT", Check.directions(x, "knit a 1;knit b 1;cut"), 9);
        EDGES.good(x, "follow()", x.follow(), WELL);
        EDGES.good(x, "followed(3)", x.followed(3), 3);
        EDGES.none(x, "directions(301)", x.directions(301), 1);
        EDGES.good(x, "follow() again", x.follow(), WELL);
        Check.directions(x, "knit a 1;");
        EDGES.good(x, "follow() of other ones", x.follow(), SHORT);
        EDGES.good(x, "followed(0) of other ones", x.followed(0), 1);
    }

    // ---- FOLLOWED

    private static void newBalls() {
        EDGES.says(62, "the first time, and behind a cut, a new one");
        follows(abba(), KNIT_ABBA, WELL, 4, 2, 40 + 6, 3);
        follows(abba(), "knit a 1;knit b 1;knit b 1;knit a 1;", WELL, 4, 2, 40 + 6, 4);
        follows(abba(), "knit a 1;cut a;knit b 2;knit a 1;", WELL, 4, 3, 60, 4);
        follows(abba(), "knit a 1;knit b 1;cut b;knit b 1;cut a;knit a 1;", WELL, 4, 4, 80, 6);
        follows(abba(), KNIT_ABBA + "cut a;cut b;", WELL, 4, 2, 46, 5);
        // The ball is that of the COLOUR that is cut, not the other one's.
        follows(abba(), "knit a 1;knit b 1;cut a;knit b 1;knit a 1;", WELL, 4, 3, 60, 5);
        follows(largest(), "loop 48;knit a 1;cut a;end;", WELL, 48, 48, 48 * 20, 97);
    }

    private static void cutNothing() {
        EDGES.says(62, "cut: its ball is cut (nothing, if there is none)");
        follows(abba(), "cut a;cut b;" + KNIT_ABBA, WELL, 4, 2, 46, 5);
        follows(abba(), "knit a 1;cut a;cut a;cut a;knit b 2;knit a 1;", WELL, 4, 3, 60, 6);
        follows(abba(), "cut a;", SHORT, 0, 0, 0, 1);
    }

    private static void loopsAreDone() {
        EDGES.says(62, "the STEPS up to its end are done n times");
        String there = "size 8 1;" + AB + "row a b a b a b a b;carry 1 cost 1;";
        FewEnds x = Check.knitted(there);
        follows(x, "loop 4;knit a 1;knit b 1;end;", WELL, 8, 2, 46, 9);
        follows(x, "loop 2;loop 2;knit a 1;knit b 1;end;end;", WELL, 8, 2, 46, 1 + 2 * 5);
        follows(x, "loop 2;loop 1;loop 2;knit a 1;knit b 1;end;end;end;", WELL, 8, 2, 46, 1 + 2 * (1 + 1 + 4));
        follows(x, "loop 1;loop 2;knit a 1;knit b 1;end;loop 2;knit a 1;knit b 1;end;end;", WELL, 8, 2, 46, 1 + 5 + 5);
        follows(x, "loop 3;end;loop 4;knit a 1;loop 1;knit b 1;end;end;loop 2;end;", WELL, 8, 2, 46, 1 + 1 + 12 + 1);
        follows(x, "loop 3;knit a 1;knit b 1;end;knit a 1;knit b 1;", WELL, 8, 2, 46, 9);
    }

    private static void wellOrShort() {
        EDGES.says(62, "it ends WELL (0), if just all STITCHES were knitted; SHORT (1), if fewer");
        follows(abba(), KNIT_ABBA, WELL, 4, 2, 46, 3);
        follows(abba(), "knit a 1;knit b 2;", SHORT, 3, 2, 40, 2);
        follows(abba(), "knit a 1;", SHORT, 1, 1, 20, 1);
        follows(abba(), "", SHORT, 0, 0, 0, 0);
        FewEnds none = new FewEnds();
        follows(none, "", WELL, 0, 0, 0, 0);
        follows(none, "loop 2;end;", WELL, 0, 0, 0, 1);
    }

    private static void wrong() {
        EDGES.says(62, "WRONG (2) ahead of a STITCH of another COLOUR");
        follows(abba(), "knit b 1;", WRONG, 0, 0, 0, 1);
        follows(abba(), "knit a 2;", WRONG, 1, 1, 20, 1);
        follows(abba(), "knit a 1;knit b 3;", WRONG, 3, 2, 40, 2);
        follows(abba(), "knit a 1;knit b 2;cut b;knit b 1;", WRONG, 3, 2, 40, 4);
        // A ball that could not go on is not asked for: the STITCH is of another COLOUR.
        FewEnds x = Check.knitted("size 4 1;" + AB + "row a b b b;carry 0 cost 0;");
        follows(x, "knit a 1;knit b 2;knit a 1;", WRONG, 3, 2, 40, 3);
    }

    private static void broken() {
        EDGES.says(62, "BROKEN (3) ahead of one to which the ball can't go on");
        String text = "size 4 1;" + AB + "row a b b a;carry ";
        follows(Check.knitted(text + "2 cost 3;"), KNIT_ABBA, WELL, 4, 2, 46, 3);
        follows(Check.knitted(text + "1 cost 3;"), KNIT_ABBA, BROKEN, 3, 2, 40, 3);
        follows(Check.knitted(text + "1 cost 3;twist 0;"), KNIT_ABBA, BROKEN, 3, 2, 40, 3);
        follows(Check.knitted(text + "1 cost 3;twist 9;"), KNIT_ABBA, WELL, 4, 2, 46, 3);
        follows(Check.knitted(text + "1 cost 3;twist 1;"), KNIT_ABBA, WELL, 4, 2, 46 + 4, 3);
        follows(Check.knitted(text + "1 cost 3;"), "knit a 1;knit b 2;cut a;knit a 1;", WELL, 4, 3, 60, 4);
        String rows = "size 2 2;" + AB + "row a b;row b a;wait ";
        follows(Check.knitted(rows + "1 cost 7;"), "knit a 1;knit b 1;knit a 1;knit b 1;", WELL, 4, 2, 40 + 14, 4);
        follows(Check.knitted(rows + "0 cost 7;"), "knit a 1;knit b 1;knit a 1;", BROKEN, 2, 2, 40, 3);
    }

    private static void longer() {
        EDGES.says(62, "LONG (4) where there is none any more");
        follows(abba(), KNIT_ABBA + "knit a 1;", LONG, 4, 2, 46, 4);
        follows(abba(), KNIT_ABBA + "knit b 1;", LONG, 4, 2, 46, 4);
        follows(abba(), "knit a 1;knit b 2;knit a 2;", LONG, 4, 2, 46, 3);
        follows(abba(), KNIT_ABBA + "loop 2;cut a;end;", WELL, 4, 2, 46, 6);
    }

    private static void left() {
        EDGES.says(62, "or it is LEFT (5): at most 300 STEPS");
        // 11 STEPS, a loop of 6 that is done 48 times, and 1 + 288 + 11 are 300.
        String loop = "loop 48;" + "cut a;".repeat(6) + "end;";
        follows(abba(), "cut a;".repeat(10) + loop, SHORT, 0, 0, 0, 299);
        follows(abba(), "cut a;".repeat(11) + loop, SHORT, 0, 0, 0, 300);
        follows(abba(), "cut a;".repeat(12) + loop, LEFT, 0, 0, 0, 300);
        follows(abba(), "cut a;".repeat(10) + loop + "knit a 1;", SHORT, 1, 1, 20, 300);
        follows(abba(), "cut a;".repeat(11) + loop + "knit a 1;", LEFT, 0, 0, 0, 300);
        follows(abba(), "cut a;".repeat(11) + loop + "knit b 1;", LEFT, 0, 0, 0, 300);
        follows(abba(), "cut a;".repeat(10) + loop + "knit b 1;", WRONG, 0, 0, 0, 300);
        // All STITCHES are knitted, and one more STEP is come to.
        follows(abba(), KNIT_ABBA + "cut a;".repeat(8) + loop, WELL, 4, 2, 46, 300);
        follows(abba(), KNIT_ABBA + "cut a;".repeat(9) + loop, LEFT, 4, 2, 46, 300);
    }

    private static void leftByLoops() {
        EDGES.says(62, "(loop counts as one each time it is come to; end does not), and one more is come to");
        // 1 + 13 * (1 + 22) are 300; then nothing but ends is come to.
        follows(abba(), "loop 13;loop 11;cut a;cut b;end;end;", SHORT, 0, 0, 0, 300);
        follows(abba(), "loop 13;loop 11;cut a;cut b;end;end;loop 1;end;", LEFT, 0, 0, 0, 300);
        follows(abba(), "loop 13;loop 11;cut a;cut b;end;end;cut a;", LEFT, 0, 0, 0, 300);
        follows(abba(), "loop 13;" + "cut a;".repeat(22) + "loop 48;end;end;", SHORT, 0, 0, 0, 300);
        follows(abba(), "loop 1;loop 13;" + "cut a;".repeat(22) + "loop 48;end;end;end;", LEFT, 0, 0, 0, 300);
        follows(abba(), "loop 48;loop 48;loop 48;end;end;end;", LEFT, 0, 0, 0, 300);
        follows(abba(), "loop 48;loop 6;end;loop 48;end;end;", SHORT, 0, 0, 0, 97);
        // Of loops that were LEFT in their midst nothing is left in what is FOLLOWED next.
        FewEnds x = largest();
        follows(x, "loop 48;loop 48;loop 48;end;end;end;", LEFT, 0, 0, 0, 300);
        follows(x, "loop 4;loop 3;loop 4;knit a 1;end;end;end;", WELL, 48, 1, 20, 1 + 4 * (1 + 3 * 5));
        follows(x, "loop 48;knit a 2;end;", LONG, 48, 1, 20, 26);
        follows(x, "loop 48;knit a 1;end;", WELL, 48, 1, 20, 49);
    }

    private static void toldOf() {
        EDGES.says(63, "what 0: STITCHES knitted, 1: balls taken, 2: what ENDS and LINKS cost, 3: STEPS done "
            + "(1; 6: there was none)");
        FewEnds x = abba();
        for (int what = 0; what <= 3; what++) {
            EDGES.none(x, "followed(" + what + "): there was none", x.followed(what), 6);
        }
        for (int what : new int[] {Integer.MIN_VALUE, -1, 4, Integer.MAX_VALUE}) {
            EDGES.none(x, "followed(" + what + "): there was none", x.followed(what), 1);
        }
        x.follow();
        EDGES.none(x, "followed(0): follow() had a STATUS of 6", x.followed(0), 6);
        follows(x, KNIT_ABBA, WELL, 4, 2, 46, 3);
        EDGES.none(x, "followed(4)", x.followed(4), 1);
        EDGES.none(x, "followed(-1)", x.followed(-1), 1);
        EDGES.says(63, "Told are how many STITCHES were knitted, balls taken, what ENDS and LINKS of these cost.");
        follows(Check.knitted(ABBA + "end 0;"), KNIT_ABBA, WELL, 4, 2, 6, 3);
        follows(Check.knitted(ABBA + "end 99;balls 1 cost 99;"), KNIT_ABBA, WELL, 4, 2, 2 * 198 + 6, 3);
    }

    private static void followedLatest() {
        EDGES.says(63, "Of follow() latest with STATUS 0");
        FewEnds x = abba();
        follows(x, "knit a 1;knit b 2;", SHORT, 3, 2, 40, 2);
        Check.directions(x, "cut a;");
        EDGES.row(x, "followed, not read", x::followed, 3, 2, 40, 2);
        x.mark();
        Check.chart(x, ABBA);
        EDGES.none(x, "follow() on another CHART", x.follow(), 6);
        EDGES.row(x, "followed, on another CHART", x::followed, 3, 2, 40, 2);
        x.back();
        EDGES.row(x, "followed, behind back()", x::followed, 3, 2, 40, 2);
        x.follow();
        EDGES.row(x, "followed, the next one", x::followed, 0, 0, 0, 1);
    }

    // ---- TAKEN

    private static void taken() {
        EDGES.says(64, "TAKEN: the PLAN is what was FOLLOWED latest (its LINKS).");
        FewEnds x = abba();
        Check.directions(x, KNIT_ABBA);
        x.follow();
        EDGES.links(x, -1, -1, -1, -1);
        Check.link(x, 1, 2);
        EDGES.good(x, "take()", x.take());
        EDGES.links(x, 3, 2, -1, -1);
        EDGES.good(x, "planCost(): what was told", x.planCost(), 46);
        x.clear();
        EDGES.good(x, "take() again", x.take());
        EDGES.links(x, 3, 2, -1, -1);
        Check.directions(x, "knit a 1;knit b 2;knit b 1;");
        EDGES.good(x, "take(): what was FOLLOWED, not read", x.take());
        EDGES.links(x, 3, 2, -1, -1);
        x.follow();
        EDGES.links(x, 3, 2, -1, -1);
        EDGES.good(x, "take() of what is WRONG: its LINKS up to there", x.take());
        EDGES.links(x, -1, 2, -1, -1);
        Check.directions(x, "");
        x.follow();
        EDGES.good(x, "take() of no STEP", x.take());
        EDGES.links(x, -1, -1, -1, -1);
        FewEnds most = largest();
        Check.directions(most, "knit a 48;");
        most.follow();
        most.take();
        EDGES.good(most, "threads(NONE) of 48", most.threads(-1), 1);
        EDGES.good(most, "comes(47) of 48", most.comes(47), 46);
    }

    private static void takenSince() {
        EDGES.says(64, "TAKEN (6: nothing was FOLLOWED since the latest chart() or back() with STATUS 0).");
        FewEnds empty = new FewEnds();
        EDGES.refused(empty, "take() of a new object", empty.take(), 6);
        FewEnds x = abba();
        Check.directions(x, KNIT_ABBA);
        EDGES.refused(x, "take(): only read", x.take(), 6);
        x.follow();
        Check.chart(x, "size 1 1;");
        x.chart(5);
        x.back();
        EDGES.good(x, "take() behind chart() and back() with other STATUS", x.take());
        x.mark();
        EDGES.good(x, "take() behind mark()", x.take());
        x.back();
        EDGES.links(x, 3, 2, -1, -1);
        EDGES.refused(x, "take() behind back()", x.take(), 6);
        EDGES.links(x, 3, 2, -1, -1);
        x.follow();
        EDGES.good(x, "take() when FOLLOWED anew", x.take());
        Check.chart(x, ABBA);
        EDGES.refused(x, "take() behind the same CHART", x.take(), 6);
        EDGES.links(x, -1, -1, -1, -1);
        x.follow();
        EDGES.refused(x, "take() behind follow() with a STATUS of 6", x.take(), 6);
    }

    // ---- MARKS

    private static void marksAtMost() {
        EDGES.says(65, "MARKS, at most 3");
        FewEnds x = new FewEnds();
        EDGES.none(x, "back() without MARKS", x.back(), 6);
        for (int many = 1; many <= 3; many++) {
            EDGES.good(x, "mark() for the " + many + "th time", x.mark(), many);
        }
        EDGES.none(x, "mark() for the 4th time", x.mark(), 4);
        EDGES.none(x, "mark() for the 5th time", x.mark(), 4);
        EDGES.says(66, "All is taken back to the latest MARK: how many there are left (6).");
        for (int many = 2; many >= 0; many--) {
            EDGES.good(x, "back() to " + many, x.back(), many);
        }
        EDGES.none(x, "back() once more", x.back(), 6);
        EDGES.none(x, "back() twice more", x.back(), 6);
        EDGES.says(65, "A MARK more: how many there are (4).");
        EDGES.good(x, "mark() anew", x.mark(), 1);
        EDGES.good(x, "mark() anew again", x.mark(), 2);
        EDGES.good(x, "back() to the first", x.back(), 1);
        EDGES.good(x, "mark() there", x.mark(), 2);
    }

    private static void marksKeep() {
        EDGES.says(66, "the CHART, the PLAN, DIRECTIONS are kept as they are; all is taken back to the latest MARK");
        FewEnds x = new FewEnds();
        x.mark();
        Check.chart(x, ABBA);
        Check.link(x, 0, 3);
        x.mark();
        Check.link(x, 1, 2);
        Check.directions(x, "knit a 1;knit b 2;");
        x.mark();
        Check.directions(x, KNIT_ABBA);
        x.clear();
        EDGES.none(x, "mark() too many", x.mark(), 4);
        Check.chart(x, "size 8 6;colour c shows 1 yarn 1;" + "row c c c c c c c c;".repeat(6) + "round;end 3;");
        x.plain();
        Check.directions(x, "knit c 48;");
        EDGES.good(x, "back() to the third", x.back(), 2);
        EDGES.row(x, "told, of the third", x::told, 4, 1, 2, 10, 2, 3, 0, 3, 1, 48, 0, 1, 5, 5, 0);
        EDGES.row(x, "stitch(i, 0), of the third", i -> x.stitch(i, 0), 0, 1, 1, 0);
        EDGES.row(x, "stitch(i, 1), of the third", i -> x.stitch(i, 1), 0, 1, 2, 3);
        EDGES.row(x, "colour(c, 1), of the third", c -> x.colour(c, 1), 1, 3);
        EDGES.links(x, 3, 2, -1, -1);
        EDGES.good(x, "follow(), of the third", x.follow(), SHORT);
        EDGES.good(x, "followed(0), of the third", x.followed(0), 3);
        EDGES.good(x, "NAMES, of the third", Check.directions(x, "cut b;"), 1);
        EDGES.good(x, "back() to the second", x.back(), 1);
        EDGES.links(x, 3, -1, -1, -1);
        EDGES.none(x, "follow(): no DIRECTIONS there", x.follow(), 6);
        EDGES.good(x, "back() to the first", x.back(), 0);
        EDGES.row(x, "told, of the first", x::told, 0, 0, 0, 10, 5);
        EDGES.none(x, "stitch(0, 0), of the first", x.stitch(0, 0), 1);
        EDGES.good(x, "threads(NONE), of the first", x.threads(-1), 0);
    }

    private static void marksLeave() {
        EDGES.says(66, "MARKS, at most 3: the CHART, the PLAN, DIRECTIONS are kept as they are");
        FewEnds x = abba();
        x.tray(0, 3, 1);
        x.mark();
        x.write(0, 0, 7);
        x.worth();
        x.few(4);
        long saved = x.fewAt(0, 2);
        Check.directions(x, KNIT_ABBA);
        x.follow();
        Check.chart(x, "size 0");
        x.feed(0, 0, 0, 0, 0);
        EDGES.good(x, "back()", x.back(), 0);
        EDGES.good(x, "read(0, 0) stays", x.read(0, 0), 7);
        EDGES.due("top() stays", x.top(), 23);
        EDGES.due("bottom() stays", x.bottom(), 40);
        EDGES.good(x, "fewAt(0, 2) stays", x.fewAt(0, 2), saved);
        EDGES.good(x, "followed(0) stays", x.followed(0), 4);
        EDGES.due("fault(0) stays", x.fault(0), 4);
        EDGES.due("feed(): the tape stays", x.feed(0, 0, 0, 0, 0), 40);
        EDGES.none(x, "follow(): no DIRECTIONS were kept", x.follow(), 6);
    }

    private static void marksGone() {
        EDGES.says(66, "all is taken back to the latest MARK, which is gone then");
        FewEnds x = abba();
        x.mark();
        Check.link(x, 0, 3);
        x.mark();
        Check.link(x, 1, 2);
        EDGES.good(x, "back() to the second", x.back(), 1);
        EDGES.links(x, 3, -1, -1, -1);
        Check.link(x, 1, 2);
        EDGES.good(x, "back() to the first, not to the second again", x.back(), 0);
        EDGES.links(x, -1, -1, -1, -1);
        EDGES.none(x, "back(): the first is gone, too", x.back(), 6);
        EDGES.links(x, -1, -1, -1, -1);
        // A MARK that is set anew keeps what is there now.
        Check.link(x, 1, 2);
        x.mark();
        x.clear();
        x.back();
        EDGES.links(x, -1, 2, -1, -1);
    }
}
