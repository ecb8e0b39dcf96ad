/** Promises 9 to 12: the tape, a CHART and DIRECTIONS as texts, their FAULTS. */
public final class TextTest {
    private static final Check CHECK = new Check();
    private static final String ONE = "size 1 1;colour w shows 1 yarn 1;row w;";
    private static final String HEAD = "size 2 2;colour w shows 1 yarn 1;colour b shows 1 yarn 1;";

    public static void main(String[] args) {
        feed();
        chart();
        chartKept();
        tokens();
        sizes();
        colours();
        rows();
        settings();
        ends();
        directions();
        directionsFaults();
        directionsLimits();
        fault();
        cutOff();
        CHECK.end("TextTest");
    }

    private static void feed() {
        FewEnds x = new FewEnds();
        for (int k = 1; k <= 40; k++) {
            CHECK.due(9, "feed() for the " + k + "th time", x.feed(0, 0, 0, 0, 0), 20 * k);
        }
        CHECK.due(9, "feed() beyond 800", x.feed(1, 2, 3, 4, 5), -1);
        CHECK.none(9, x, "chart(801)", x.chart(801), 1);
        // The bytes of the document's own example: "size", " 4 2" ..
        FewEnds y = new FewEnds();
        CHECK.due(9, "feed()", y.feed(0x73697a65, 0x20312031, 0x3b636f6c, 0x6f757220, 0x61207368), 20);
        CHECK.due(9, "feed()", y.feed(0x6f777320, 0x30207961, 0x726e2031, 0x3b726f77, 0x20613b00), 40);
        CHECK.good(9, y, "chart(39)", y.chart(39), 1);
    }

    private static void chart() {
        FewEnds x = new FewEnds();
        Check.feed(x, ONE);
        CHECK.none(10, x, "chart(-1)", x.chart(-1), 1);
        CHECK.none(10, x, "chart(41)", x.chart(41), 1);
        CHECK.due(12, "fault(0): STATUS 1 tells none", x.fault(0), -1);
        CHECK.good(10, x, "chart() of the tape that stayed", x.chart(ONE.length()), 1);
        CHECK.none(10, x, "chart(1): the tape is empty", x.chart(1), 1);
        CHECK.due(9, "feed() on an empty tape", x.feed(0, 0, 0, 0, 0), 20);
        CHECK.none(10, x, "chart(0)", x.chart(0), 9);
        CHECK.none(10, x, "chart(1): with a FAULT it is empty, too", x.chart(1), 1);
        CHECK.good(10, x, "a chart with a long text", Check.chart(x, long800()), 1);
    }

    private static String long800() {
        StringBuilder text = new StringBuilder(ONE);
        while (text.length() < 800) {
            text.append('\n');
        }
        return text.toString();
    }

    private static void chartKept() {
        FewEnds x = Check.knitted(HEAD + "row w w;row w b;");
        Check.link(x, 0, 1);
        Check.directions(x, "knit w 1;");
        CHECK.none(10, x, "a chart with a FAULT", Check.chart(x, "size 1 1;"), 9);
        CHECK.good(10, x, "goes(0): the old one stays", x.goes(0), 1);
        CHECK.good(10, x, "told(0): the old one stays", x.told(0), 2);
        CHECK.good(10, x, "follow(): DIRECTIONS stay", x.follow(), 1);
        CHECK.good(10, x, "a chart", Check.chart(x, HEAD + "row w w;row w w;"), 4);
        CHECK.none(10, x, "goes(0): no LINK then", x.goes(0), 6);
        CHECK.none(10, x, "follow(): no DIRECTIONS then", x.follow(), 6);
        CHECK.good(10, x, "a chart without settings", Check.chart(x, HEAD + "row w w;row w w;end 9;round;"), 4);
        CHECK.good(10, x, "told(3)", x.told(3), 9);
        Check.chart(x, HEAD + "row w w;row w w;");
        CHECK.good(10, x, "told(3): all as without it", x.told(3), 10);
        CHECK.good(10, x, "told(14): all as without it", x.told(14), 0);
    }

    /** A CHART's FAULT and its place. */
    private static void chartFault(String text, int kind, int place) {
        FewEnds x = new FewEnds();
        CHECK.none(10, x, "chart " + text, Check.chart(x, text), 9);
        CHECK.due(12, "fault(0) of " + text, x.fault(0), kind);
        CHECK.due(12, "fault(1) of " + text, x.fault(1), place);
    }

    private static void chartGood(String text, int stitches) {
        FewEnds x = new FewEnds();
        CHECK.good(10, x, "chart " + text, Check.chart(x, text), stitches);
        CHECK.due(12, "fault(0) of " + text, x.fault(0), 0);
        CHECK.due(12, "fault(1) of " + text, x.fault(1), -1);
    }

    private static void tokens() {
        chartGood("\n  size1 1\n;colour\nw shows1yarn1;row w;\n ", 1);
        chartGood("size 0001 01;colour w shows 0009 yarn 0099;row w;", 1);
        chartFault("size 1 1;\tcolour w", 1, 9);
        chartFault("size 1 1;\rcolour w", 1, 9);
        chartFault("Size 1 1;", 1, 0);
        chartFault("size -1 1;", 1, 5);
        chartFault("size 1,1;", 1, 6);
        chartFault("size 00001 1;", 1, 5);
        chartFault("size 12345;", 1, 5);
        chartFault("size 1 1; \u00e9", 1, 10);
        chartFault("size 1 1;\u0000", 1, 9);
        chartFault("size 1 1 12345;", 1, 9);
        // Of a TOKEN that can't stand there and is none, the least kind.
        chartFault("12345", 1, 0);
        chartFault("size 9999;", 4, 5);
        // The TOKENS go as long as they can.
        chartFault("sizes 1 1;", 2, 0);
        chartFault("size 11;", 4, 5);
    }

    private static void sizes() {
        chartFault("", 2, 0);
        chartFault("  \n", 2, 3);
        chartFault(";", 2, 0);
        chartFault("round;", 2, 0);
        chartFault("1 1;", 2, 0);
        chartFault("size", 2, 4);
        chartFault("size one", 2, 5);
        chartFault("size 1", 2, 6);
        chartFault("size 1 ;", 2, 7);
        chartFault("size 1 1", 2, 8);
        chartFault("size 1 1 1", 2, 9);
        chartFault("size 0 1;", 4, 5);
        chartFault("size 9 1;", 4, 5);
        chartFault("size 1 0;", 4, 7);
        chartFault("size 1 7;", 4, 7);
        chartFault("size 1 1;size 1 1;", 2, 9);
        chartFault("size 1 1;cost 1;", 2, 9);
        chartFault("size 1 1;w;", 2, 9);
        chartFault("size 1 1;;", 2, 9);
        chartFault("size 1 1;5;", 2, 9);
        chartGood("size 8 1;colour w shows 1 yarn 1;row w w w w w w w w;", 8);
        chartGood("size 1 6;colour w shows 1 yarn 1;row w;row w;row w;row w;row w;row w;", 6);
        StringBuilder most = new StringBuilder("size 8 6;colour w shows 1 yarn 1;");
        for (int row = 0; row < 6; row++) {
            most.append("row w w w w w w w w;");
        }
        chartGood(most.toString(), 48);
    }

    private static void colours() {
        for (String word : "size colour shows yarn row end carry cost twist wait balls strand sew alter round"
            .split(" ")) {
            chartFault("size 1 1;colour " + word + " shows 1 yarn 1;row w;", 2, 16);
            chartFault("size 1 1;colour w shows 1 yarn 1;row " + word + ";", 2, 37);
            // A WORD a little longer is a NAME.
            chartGood("size 1 1;colour " + word + "s shows 1 yarn 1;row " + word + "s;", 1);
        }
        chartGood("size 1 1;colour abcdefgh shows 1 yarn 1;row abcdefgh;", 1);
        chartGood("size 2 1;colour azzzzzzz shows 1 yarn 1;colour z shows 1 yarn 1;row z azzzzzzz;", 2);
        chartFault("size 2 1;colour a shows 1 yarn 1;colour aa shows 1 yarn 1;row aa aaa;", 3, 65);
        chartFault("size 1 1;colour abcdefghi shows 1 yarn 1;", 2, 16);
        chartFault("size 1 1;colour 12345 shows 1 yarn 1;row w;", 1, 16);
        chartFault("size 1 1;colour w 12345 shows 1 yarn 1;row w;", 1, 18);
        chartFault("size 1 1;colour 1", 2, 16);
        chartFault("size 1 1;colour ;", 2, 16);
        chartFault("size 1 1;colour", 2, 15);
        chartFault("size 1 1;colour w yarn", 2, 18);
        chartFault("size 1 1;colour w shows yarn", 2, 24);
        chartFault("size 1 1;colour w shows 1 1", 2, 26);
        chartFault("size 1 1;colour w shows 1 yarn;", 2, 30);
        chartFault("size 1 1;colour w shows 1 yarn 1", 2, 32);
        chartFault("size 1 1;colour w shows 1 yarn 1 row", 2, 33);
        chartFault("size 1 1;colour w shows 10 yarn 1;", 4, 24);
        chartFault("size 1 1;colour w shows 1 yarn 0;", 4, 31);
        chartFault("size 1 1;colour w shows 1 yarn 100;", 4, 31);
        chartGood("size 1 1;colour w shows 0 yarn 99;row w;", 1);
        chartFault("size 1 1;colour w shows 1 yarn 1;colour w shows 1 yarn 1;", 3, 40);
        String four = "size 1 1;colour a shows 1 yarn 1;colour b shows 1 yarn 1;colour c shows 1 yarn 1;"
            + "colour d shows 1 yarn 1;colour e shows 1 yarn 1;";
        chartGood(four + "row e;", 1);
        chartFault(four + "colour f shows 1 yarn 1;row e;", 6, 129);
        chartFault(four + "colour a", 6, 129);
    }

    private static void rows() {
        chartGood(HEAD + "row w b;row b w;", 4);
        chartFault(HEAD + "row;", 2, 60);
        chartFault(HEAD + "row 1", 2, 61);
        chartFault(HEAD + "row", 2, 60);
        chartFault(HEAD + "row w", 2, 62);
        chartFault(HEAD + "row w 1;", 2, 63);
        chartFault(HEAD + "row w row", 2, 63);
        chartFault(HEAD + "row w abcdefghi", 2, 63);
        chartFault(HEAD + "row c w;", 3, 61);
        chartFault(HEAD + "row w c;", 3, 63);
        chartFault(HEAD + "row w;", 7, 62);
        chartFault(HEAD + "row w w w;", 6, 65);
        // Of a NAME that is too many the least kind.
        chartFault(HEAD + "row w w c;", 3, 65);
        chartFault(HEAD + "row w w abcdefghi;", 2, 65);
        chartFault(HEAD + "row w w end;", 2, 65);
        chartFault(HEAD + "row w w 12345;", 1, 65);
        chartFault(HEAD + "row w w;row w w;row w w;", 6, 73);
        chartFault(HEAD + "row w w;row w w;row", 6, 73);
        chartFault("size 1 1;row w;colour w shows 1 yarn 1;", 3, 13);
        chartFault(HEAD + "row w w;row w wb;", 3, 71);
    }

    /** A setting between its bounds and just outside of them. */
    private static void setting(String word, int low, int high, String behind) {
        int place = ONE.length() + word.length() + 1;
        chartGood(ONE + word + " " + low + behind + ";", 1);
        chartGood(ONE + word + " " + high + behind + ";", 1);
        chartFault(ONE + word + " " + (high + 1) + behind + ";", 4, place);
        if (low > 0) {
            chartFault(ONE + word + " " + (low - 1) + behind + ";", 4, place);
        }
        chartFault(ONE + word + behind + ";", 2, place - (behind.isEmpty() ? 1 : 0));
        chartFault(ONE + word + " " + low + behind, 2, place + ("" + low + behind).length());
        String once = ONE + word + " " + low + behind + ";";
        chartFault(once + word + " " + low + behind + ";", 5, once.length());
        String between = word.equals("sew") ? "alter 1;" : "sew 1;";
        chartFault(once + between + word, 5, (once + between).length());
    }

    private static void cost(String word, int high) {
        String head = ONE + word + " 1 cost ";
        chartGood(head + "0;", 1);
        chartGood(head + high + ";", 1);
        chartFault(head + (high + 1) + ";", 4, head.length());
        chartFault(head + ";", 2, head.length());
        chartFault(ONE + word + " 1;", 2, head.length() - 6);
        chartFault(ONE + word + " 1 twist 1;", 2, head.length() - 5);
    }

    private static void settings() {
        setting("end", 0, 99, "");
        setting("carry", 0, 47, " cost 1");
        setting("twist", 0, 9, "");
        setting("wait", 0, 7, " cost 1");
        setting("balls", 1, 48, " cost 1");
        setting("strand", 0, 99, "");
        setting("sew", 0, 999, "");
        setting("alter", 0, 999, "");
        twistNever();
        cost("carry", 9);
        cost("wait", 99);
        cost("balls", 99);
        chartGood(ONE + "round;", 1);
        chartFault(ONE + "round", 2, ONE.length() + 5);
        chartFault(ONE + "round 1;", 2, ONE.length() + 6);
        chartFault(ONE + "round;round;", 5, ONE.length() + 6);
        chartGood("size 1 1;round;end 5;colour w shows 1 yarn 1;sew 3;row w;alter 1;", 1);
    }

    /** A TWIST of 0 may be told; the first FAULT along the text is then behind it. */
    private static void twistNever() {
        chartGood(ONE + "twist 0000;", 1);
        chartFault(ONE + "twist 0", 2, ONE.length() + 7);
        chartFault(ONE + "twist 0\u0000", 1, ONE.length() + 7);
        chartFault(ONE + "twist 0 row w;", 2, ONE.length() + 8);
        chartFault(ONE + "twist 00000;", 1, ONE.length() + 6);
        chartFault(ONE + "twist 0;twist 3;", 5, ONE.length() + 8);
        chartFault(ONE + "twist 3;twist 0;", 5, ONE.length() + 8);
        chartFault(ONE + "twist 0;end 100;", 4, ONE.length() + 12);
    }

    private static void ends() {
        chartFault("size 1 1;", 8, 9);
        chartFault("size 1 1; \n", 8, 11);
        chartFault(HEAD + "row w w;", 8, 65);
        chartFault(HEAD + "row w w;round;", 8, 71);
    }

    private static FewEnds two() {
        return Check.knitted(HEAD + "row w w;row b w;");
    }

    private static void directions() {
        FewEnds x = two();
        Check.feed(x, "knit w 3;");
        CHECK.none(11, x, "directions(-1)", x.directions(-1), 1);
        CHECK.none(11, x, "directions(21)", x.directions(21), 1);
        CHECK.good(11, x, "directions(9)", x.directions(9), 1);
        CHECK.good(11, x, "followed", x.follow(), 1);
        CHECK.none(11, x, "directions(1): the tape is empty", x.directions(1), 1);
        CHECK.good(11, x, "loops", Check.directions(x, "loop 2;knit w 1;loop 1;cut b;end;end;knit w 1;"), 5);
        CHECK.due(12, "fault(0)", x.fault(0), 0);
        CHECK.due(12, "fault(1)", x.fault(1), -1);
        CHECK.none(11, x, "directions with a FAULT", Check.directions(x, "knit;"), 9);
        CHECK.none(11, x, "directions(1): the tape is empty with a FAULT", x.directions(1), 1);
        CHECK.good(11, x, "follow(): the old ones stay", x.follow(), 1);
        x.followed(0);
        CHECK.good(11, x, "followed(0)", x.followed(0), 3);
        CHECK.good(11, x, "directions of no STEP", Check.directions(x, " \n"), 0);
        CHECK.good(11, x, "follow() of no STEP", x.follow(), 1);
    }

    private static void stepsFault(String text, int kind, int place) {
        FewEnds x = two();
        CHECK.none(11, x, "directions " + text, Check.directions(x, text), 9);
        CHECK.due(12, "fault(0) of " + text, x.fault(0), kind);
        CHECK.due(12, "fault(1) of " + text, x.fault(1), place);
    }

    private static void directionsFaults() {
        stepsFault("knit w 1; -", 1, 10);
        stepsFault("knit w 12345;", 1, 7);
        stepsFault("knit 12345 1;", 1, 5);
        stepsFault("knit 12345 w 1;", 1, 5);
        stepsFault("cut 12345;", 1, 4);
        stepsFault("loop 12345 2;end;", 1, 5);
        stepsFault("knit 1 1;", 2, 5);
        stepsFault("knit knit 1;", 2, 5);
        stepsFault("knit cut 1;", 2, 5);
        stepsFault("knit loop 1;", 2, 5);
        stepsFault("knit end 1;", 2, 5);
        stepsFault("knit abcdefghi 1;", 2, 5);
        stepsFault("knit abcdefgh 1;", 3, 5);
        stepsFault("knit row 1;", 3, 5);
        stepsFault("knit c 1;", 3, 5);
        stepsFault("cut c;", 3, 4);
        stepsFault("cut ;", 2, 4);
        stepsFault("cut w 1;", 2, 6);
        stepsFault("knit w;", 2, 6);
        stepsFault("knit w 1", 2, 8);
        stepsFault("knit w 0;", 4, 7);
        stepsFault("knit w 49;", 4, 7);
        stepsFault("loop 0;end;", 4, 5);
        stepsFault("loop 49;end;", 4, 5);
        stepsFault("loop w;end;", 2, 5);
        stepsFault("loop 2 end;", 2, 7);
        stepsFault("loop 2;", 2, 7);
        stepsFault("loop 2;end", 2, 10);
        stepsFault("end;", 2, 0);
        stepsFault("loop 2;end;end;", 2, 11);
        stepsFault("loop 1;loop 1;end; \n", 2, 20);
        stepsFault("w;", 2, 0);
        stepsFault("5;", 2, 0);
        stepsFault(";", 2, 0);
        stepsFault("round;", 2, 0);
        stepsFault("loop 1;loop 1;loop 1;loop 1;end;end;end;end;", 7, 21);
        stepsFault("loop 1;loop 1;loop 1;loop;", 7, 21);
    }

    private static String steps(int many, String step) {
        StringBuilder text = new StringBuilder();
        for (int k = 0; k < many; k++) {
            text.append(step);
        }
        return text.toString();
    }

    private static void directionsLimits() {
        FewEnds x = two();
        CHECK.good(11, x, "40 STEPS", Check.directions(x, steps(40, "cut w;")), 40);
        CHECK.good(11, x, "40 STEPS with ends", Check.directions(x, "loop 1;" + steps(39, "cut w;") + "end;"), 40);
        CHECK.good(11, x, "three loops", Check.directions(x, "loop 48;loop 1;loop 1;knit w 48;end;end;end;"), 4);
        CHECK.good(11, x, "three loops twice",
            Check.directions(x, steps(2, "loop 1;loop 1;loop 1;end;end;loop 1;end;end;")), 8);
        // As many lines as can stand in 300 bytes.
        CHECK.good(11, x, "30 loops", Check.directions(x, steps(30, "loop1;end;")), 30);
        CHECK.good(11, x, "follow() of 30 loops", x.follow(), 1);
        CHECK.good(11, x, "followed(3) of 30 loops", x.followed(3), 30);
        stepsFault(steps(40, "cut w;") + "cut", 6, 240);
        stepsFault(steps(40, "cut w;") + "knit w 1;", 6, 240);
        stepsFault(steps(37, "cut w;") + "loop 1;loop 1;loop 1;loop 1;", 6, 243);
        stepsFault(steps(36, "cut w;") + "loop 1;loop 1;loop 1;loop 1;", 7, 237);
        Check.feed(x, steps(310, " "));
        CHECK.none(11, x, "directions(301)", x.directions(301), 1);
        CHECK.good(11, x, "directions(300)", x.directions(300), 0);
        FewEnds y = Check.knitted("size 1 1;colour knit shows 1 yarn 1;row knit;");
        CHECK.none(11, y, "a COLOUR that is named knit", Check.directions(y, "knit knit 1;"), 9);
        FewEnds z = new FewEnds();
        CHECK.none(11, z, "no COLOURS", Check.directions(z, "knit w 1;"), 9);
        CHECK.due(12, "fault(0) of no COLOURS", z.fault(0), 3);
        CHECK.good(11, z, "a loop without a CHART", Check.directions(z, "loop 2;end;"), 1);
    }

    private static void fault() {
        FewEnds x = new FewEnds();
        CHECK.due(12, "fault(0) ahead of any", x.fault(0), -1);
        CHECK.due(12, "fault(1) ahead of any", x.fault(1), -1);
        Check.chart(x, ONE);
        CHECK.due(12, "fault(0) without one", x.fault(0), 0);
        CHECK.due(12, "fault(2)", x.fault(2), -1);
        CHECK.due(12, "fault(-1)", x.fault(-1), -1);
        Check.directions(x, "knit w 0;");
        x.chart(5);
        x.directions(-1);
        CHECK.due(12, "fault(0): STATUS 1 leaves it", x.fault(0), 4);
        CHECK.due(12, "fault(1): STATUS 1 leaves it", x.fault(1), 7);
        CHECK.due(12, "fault(2) with one", x.fault(2), -1);
        Check.directions(x, "knit w 1;");
        CHECK.due(12, "fault(0) without one any more", x.fault(0), 0);
        CHECK.due(12, "fault(1) without one any more", x.fault(1), -1);
    }

    /** What stands behind the first n bytes is no part of the TEXT. */
    private static void cutOff() {
        FewEnds x = new FewEnds();
        Check.feed(x, ONE + "round;");
        CHECK.none(10, x, "chart() up to roun", x.chart(ONE.length() + 4), 9);
        CHECK.due(12, "fault(0) of roun", x.fault(0), 2);
        CHECK.due(12, "fault(1) of roun", x.fault(1), ONE.length());
        Check.feed(x, ONE + "end 12345;");
        CHECK.none(10, x, "chart() up to 1234", x.chart(ONE.length() + 8), 9);
        CHECK.due(12, "fault(0) of 1234", x.fault(0), 4);
        CHECK.due(12, "fault(1) of 1234", x.fault(1), ONE.length() + 4);
        Check.feed(x, ONE + "rounds");
        CHECK.good(10, x, "chart() up to the row", x.chart(ONE.length()), 1);
        Check.feed(x, "loop 2;knit w 1;end;");
        CHECK.none(11, x, "directions() ahead of the end", x.directions(16), 9);
        CHECK.none(11, x, "an end of a loop in the TEXT ahead", Check.directions(x, "end;"), 9);
        CHECK.due(12, "fault(0) of the end", x.fault(0), 2);
        CHECK.due(12, "fault(1) of the end", x.fault(1), 0);
    }
}
