/** Edges of the tape and of a CHART as a TEXT: promises 9, 10 and 12, and what told() makes of the TEXT. */
public final class TextEdgeTest {
    private static final Edges EDGES = new Edges();
    private static final String ONE = "size 1 1;colour w shows 1 yarn 1;row w;";
    private static final String HEAD = "size 2 2;colour w shows 1 yarn 1;colour b shows 1 yarn 1;";
    private static final String ROWS = "row w b;row b w;";
    private static final String FIVE = "colour a shows 1 yarn 1;colour b shows 1 yarn 1;colour c shows 1 yarn 1;"
        + "colour d shows 1 yarn 1;colour e shows 1 yarn 1;";
    private static final String[] WORDS = {"size", "colour", "shows", "yarn", "row", "end", "carry", "cost", "twist",
        "wait", "balls", "strand", "sew", "alter", "round"};

    public static void main(String[] args) {
        feed();
        fullTape();
        chartLength();
        tapeIsEmptyThen();
        longestText();
        blanks();
        bytes();
        asLongAsTheyGo();
        digits();
        parts();
        anyNumberOfTimes();
        names();
        size();
        colours();
        coloursAtMost();
        rows();
        settings();
        costs();
        without();
        twistNever();
        round();
        firstAlongTheText();
        leastKind();
        endOfText();
        wrongNames();
        wrongNumbers();
        toldAlready();
        tooMany();
        tooFew();
        taken();
        oldOneStays();
        fault();
        EDGES.end("TextEdgeTest");
    }

    // ---- what the tests share

    /** A TEXT that is a CHART. */
    private static FewEnds good(String text, int stitches) {
        FewEnds x = new FewEnds();
        EDGES.good(x, "chart " + text, Check.chart(x, text), stitches);
        EDGES.due("fault(0) of " + text, x.fault(0), 0);
        EDGES.due("fault(1) of " + text, x.fault(1), -1);
        return x;
    }

    /** A TEXT with a FAULT, whose place is told by a ^ that is no part of it. */
    private static void wrong(String marked, int kind) {
        int place = marked.indexOf('^');
        String text = marked.substring(0, place) + marked.substring(place + 1);
        FewEnds x = new FewEnds();
        EDGES.none(x, "chart " + marked, Check.chart(x, text), 9);
        EDGES.due("fault(0) of " + marked, x.fault(0), kind);
        EDGES.due("fault(1) of " + marked, x.fault(1), place);
    }

    private static String times(int many, String part) {
        return part.repeat(many);
    }

    // ---- the tape

    private static void feed() {
        EDGES.says(9, "Twenty bytes come behind those on the tape, the highest of each int first: how many it has");
        FewEnds x = new FewEnds();
        EDGES.due("feed() of the first ones", x.feed(0x73697a65, 0x20312031, 0x3b636f6c, 0x6f757220, 0x61207368), 20);
        EDGES.due("feed() behind them", x.feed(0x6f777320, 0x30207961, 0x726e2031, 0x3b726f77, 0x20613b20), 40);
        EDGES.good(x, "chart(40)", x.chart(40), 1);
        EDGES.due("feed() on a tape that is empty then", x.feed(-1, -1, -1, -1, -1), 20);
        EDGES.none(x, "chart(1) of a byte of 255", x.chart(1), 9);
        EDGES.due("fault(0) of a byte of 255", x.fault(0), 1);
    }

    private static void fullTape() {
        EDGES.says(9, "NONE if there would be more than 800.");
        FewEnds x = new FewEnds();
        Check.feed(x, ONE + " ");
        for (int k = 3; k < 40; k++) {
            EDGES.due("feed() for the " + k + "th time", x.feed(0x20202020, 0x20202020, 0x20202020, 0x20202020,
                0x20202020), 20 * k);
        }
        // The last of the 800 bytes are "    end 98;   round;".
        EDGES.due("feed() up to 800", x.feed(0x20202020, 0x656e6420, 0x39383b20, 0x2020726f, 0x756e643b), 800);
        EDGES.due("feed() beyond 800", x.feed(0, 0, 0, 0, 0), -1);
        EDGES.due("feed() beyond 800 again", x.feed(1, 2, 3, 4, 5), -1);
        EDGES.none(x, "chart(801)", x.chart(801), 1);
        EDGES.good(x, "chart(800)", x.chart(800), 1);
        EDGES.good(x, "told(3)", x.told(3), 98);
        EDGES.good(x, "told(14): the last byte", x.told(14), 1);
        EDGES.due("feed() on the tape that is empty then", x.feed(0, 0, 0, 0, 0), 20);
    }

    private static void chartLength() {
        EDGES.says(10, "(1: n below 0, or more than the tape has, too; 9: the old one stays)");
        FewEnds x = new FewEnds();
        EDGES.none(x, "chart(1) of an empty tape", x.chart(1), 1);
        EDGES.none(x, "chart(0) of an empty tape", x.chart(0), 9);
        Check.feed(x, ONE);
        for (int n : new int[] {Integer.MIN_VALUE, -1, 41, Integer.MAX_VALUE}) {
            EDGES.none(x, "chart(" + n + ") of 40 bytes", x.chart(n), 1);
        }
        EDGES.good(x, "chart(39): the tape stayed", x.chart(39), 1);
        Check.feed(x, ONE + " ");
        EDGES.good(x, "chart(40): all of the tape", x.chart(40), 1);
    }

    private static void tapeIsEmptyThen() {
        EDGES.says(10, "The first n bytes of the tape (which is empty then) are the CHART: how many STITCHES");
        FewEnds x = new FewEnds();
        Check.feed(x, ONE + ONE + "                              ");
        EDGES.good(x, "chart(39)", x.chart(39), 1);
        EDGES.none(x, "chart(1) behind it", x.chart(1), 1);
        Check.feed(x, ONE);
        EDGES.none(x, "chart(0)", x.chart(0), 9);
        EDGES.none(x, "chart(1) behind chart(0)", x.chart(1), 1);
        Check.feed(x, ONE);
        EDGES.none(x, "chart(38): with a FAULT", x.chart(38), 9);
        EDGES.due("fault(1): the text's length", x.fault(1), 38);
        EDGES.none(x, "chart(1) behind a FAULT", x.chart(1), 1);
        EDGES.due("feed() behind a FAULT", x.feed(0, 0, 0, 0, 0), 20);
        good("size 8 6;colour w shows 1 yarn 1;" + times(6, "row w w w w w w w w;"), 48);
    }

    private static void longestText() {
        EDGES.says(10, "A CHART is a TEXT of at most 800 bytes.");
        String end = "alter 999;round;";
        FewEnds x = good(ONE + times(800 - ONE.length() - end.length(), "\n") + end, 1);
        EDGES.good(x, "told(13) of 800 bytes", x.told(13), 999);
        EDGES.good(x, "told(14) of 800 bytes", x.told(14), 1);
        FewEnds y = new FewEnds();
        String most = ONE + times(800 - ONE.length() - 5, " ") + "round";
        EDGES.none(y, "chart() of 800 bytes with a FAULT at their end", Check.chart(y, most), 9);
        EDGES.due("fault(1) at their end", y.fault(1), 800);
    }

    // ---- TOKENS

    private static void blanks() {
        EDGES.says(10, "between them blanks (10, 32)");
        good(" \n size\n1 1 \n ; colour w shows 1 yarn\n\n1;row\nw ;\n ", 1);
        good("size1 1;colour w shows1yarn1;row w;end0;carry1cost1;round;", 1);
        for (char strange : new char[] {0, 9, 11, 13, 31, 33, 160}) {
            wrong("size^" + strange + "1 1;", 1);
        }
        wrong("^siz e 1 1;", 2);
        wrong("size 1 1;colour w shows 1 yarn 1;row w ^w;", 6);
    }

    /** Each byte behind a CHART: a blank, the beginning of a TOKEN that can't stand there, or none. */
    private static void bytes() {
        EDGES.says(12, "1 no TOKEN begins so");
        for (int b = 0; b < 256; b++) {
            boolean isToken = b >= 'a' && b <= 'z' || b >= '0' && b <= '9' || b == ';';
            FewEnds x = new FewEnds();
            boolean isBlank = b == 10 || b == 32;
            long got = Check.chart(x, ONE + (char) b);
            EDGES.due("chart with a byte of " + b, got, isBlank ? 1 : -1);
            EDGES.due("fault(0) of a byte of " + b, x.fault(0), isBlank ? 0 : isToken ? 2 : 1);
            EDGES.due("fault(1) of a byte of " + b, x.fault(1), isBlank ? -1 : 39);
        }
    }

    private static void asLongAsTheyGo() {
        EDGES.says(10, "TOKENS, as long as they go");
        wrong("^sizes 1 1;", 2);
        wrong("size ^11;", 4);
        wrong("size 1 ^11;", 4);
        wrong("size 1 1;^colourw shows 1 yarn 1;", 2);
        wrong("size 2 1;colour w shows 1 yarn 1;row ^ww;", 3);
        wrong("size 1 1;colour w shows ^11 yarn 1;", 4);
        good("size 1 1;colour ww shows 1 yarn 11;row ww;", 1);
        good("size 1 1;colour az shows 1 yarn 1;row az;", 1);
    }

    private static void digits() {
        EDGES.says(10, "NUMBERS (1 to 4 digits)");
        good("size 1 1;colour w shows 0 yarn 9;row w;", 1);
        good("size 0001 001;colour w shows 0009 yarn 0099;row w;sew 0999;end 0000;", 1);
        wrong("size ^0000 1;", 4);
        wrong("size ^9999 1;", 4);
        EDGES.says(12, "(a NUMBER of 5 digits and more: at its first)");
        wrong("size ^00001 1;", 1);
        wrong("size 1 ^12345;", 1);
        wrong("size ^" + times(700, "1") + ";", 1);
        wrong("size 1 1;colour w shows 1 yarn ^00001;", 1);
        wrong(ONE + "end ^00000;", 1);
        wrong("^12345", 1);
        wrong("size 1 1;colour ^12345", 1);
        wrong("size 1 1;colour w ^12345", 1);
        wrong("size 1 1;colour w shows 1 ^12345", 1);
        wrong("size 1 1;colour w shows 1 yarn 1 ^12345", 1);
        wrong(HEAD + "row ^12345", 1);
        wrong(HEAD + "row w ^12345", 1);
        wrong(HEAD + "row w b ^12345", 1);
        wrong(ONE + "carry 1 ^12345", 1);
        wrong(ONE + "round ^12345", 1);
    }

    // ---- the grammar

    /** In a PART each TOKEN must be of its kind: what else stands there can't, and the TEXT's end neither. */
    private static void part(String head, String part, String behind) {
        String[] tokens = part.split(" ");
        good(head + part + behind, 4);
        StringBuilder ahead = new StringBuilder(head + tokens[0]);
        for (int k = 1; k < tokens.length; k++) {
            wrong(ahead + "^", 2);
            for (String other : new String[] {";", "7", "size", "abcdefghi"}) {
                boolean both = Character.isLetter(tokens[k].charAt(0)) && Character.isLetter(other.charAt(0));
                boolean numbers = Character.isDigit(tokens[k].charAt(0)) && other.equals("7");
                boolean rowEnds = tokens[0].equals("row") && k == 2 && other.equals(";");
                if (!other.equals(tokens[k]) && !numbers && !rowEnds) {
                    wrong(ahead + " ^" + other + " " + (both ? "x" : "w"), 2);
                }
            }
            ahead.append(" ").append(tokens[k]);
        }
    }

    private static void parts() {
        EDGES.says(10, "CHART: size NUMBER NUMBER ; {PART}.");
        wrong("^", 2);
        wrong(" \n^", 2);
        wrong("^;", 2);
        wrong("^1 1;", 2);
        wrong("^colour w shows 1 yarn 1;", 2);
        wrong("size^", 2);
        wrong("size ^;", 2);
        wrong("size ^w", 2);
        wrong("size 1^", 2);
        wrong("size 1 ^;", 2);
        wrong("size 1 1^", 2);
        wrong("size 1 1 ^1", 2);
        wrong("size 1 1 ^w", 2);
        wrong("size 1 1;^size 1 1;", 2);
        wrong("size 1 1;^;", 2);
        wrong("size 1 1;^1;", 2);
        for (String word : new String[] {"shows", "yarn", "cost", "w", "knit", "loop", "cut"}) {
            wrong(ONE + "^" + word, 2);
        }
        EDGES.says(10, "PART: colour NAME shows NUMBER yarn NUMBER ; or row NAME {NAME} ; or end NUMBER ; "
            + "or carry NUMBER cost NUMBER ; or twist NUMBER ; or wait NUMBER cost NUMBER ; "
            + "or balls NUMBER cost NUMBER ; or strand NUMBER ; or sew NUMBER ; or alter NUMBER ; or round ;");
        part("size 2 2;colour w shows 1 yarn 1;", "colour b shows 1 yarn 1 ;", ROWS);
        part(HEAD, "row w b ;", "row b w;");
        for (String setting : new String[] {"end 7 ;", "carry 7 cost 7 ;", "twist 7 ;", "wait 7 cost 7 ;",
            "balls 7 cost 7 ;", "strand 7 ;", "sew 7 ;", "alter 7 ;", "round ;"}) {
            part(HEAD + ROWS, setting, "");
        }
    }

    private static void anyNumberOfTimes() {
        EDGES.says(10, "({ } any number of times.)");
        wrong("size 1 1;^", 8);
        good("size 1 1;round;end 5;colour w shows 1 yarn 1;sew 3;row w;colour b shows 1 yarn 1;alter 1;", 1);
        good("size 8 1;colour w shows 1 yarn 1;row w w w w w w w w;", 8);
        wrong("size 1 1;colour w shows 1 yarn 1;row ^;", 2);
        wrong("size 1 1;colour w shows 1 yarn 1;row^", 2);
    }

    private static void names() {
        EDGES.says(10, "NAME: a WORD of 1 to 8 letters that is none of size, colour, shows, yarn, row, end, carry, "
            + "cost, twist, wait, balls, strand, sew, alter, round.");
        good("size 1 1;colour a shows 1 yarn 1;row a;", 1);
        good("size 1 1;colour abcdefgh shows 1 yarn 1;row abcdefgh;", 1);
        good("size 1 1;colour zzzzzzzz shows 1 yarn 1;row zzzzzzzz;", 1);
        for (String word : WORDS) {
            wrong("size 1 1;colour ^" + word + " shows 1 yarn 1;", 2);
            wrong("size 1 1;colour w shows 1 yarn 1;row ^" + word + ";", 2);
            String longer = word + "s";
            String shorter = word.substring(1);
            good("size 1 1;colour " + longer + " shows 1 yarn 1;row " + longer + ";", 1);
            good("size 1 1;colour " + shorter + " shows 1 yarn 1;row " + shorter + ";", 1);
        }
        good("size 1 1;colour knit shows 1 yarn 1;row knit;", 1);
        EDGES.says(12, "a WORD of 9 letters and more where a NAME must stand");
        wrong("size 1 1;colour ^abcdefghi shows 1 yarn 1;", 2);
        wrong("size 1 1;colour ^" + times(600, "a") + " shows 1 yarn 1;", 2);
        wrong("size 1 1;colour w shows 1 yarn 1;row ^abcdefghi;", 2);
        wrong(HEAD + "row w ^wwwwwwwww;", 2);
        wrong("size 1 1;colour w ^showsshows 1 yarn 1;", 2);
        wrong("^sizesizes 1 1;", 2);
    }

    // ---- NUMBERS and how many there can be

    private static void size() {
        EDGES.says(12, "The CHART is so many stitches wide (1 to 8)");
        String colour = "colour w shows 1 yarn 1;";
        FewEnds narrow = good("size 1 2;" + colour + "row w;row w;", 2);
        EDGES.good(narrow, "told(0)", narrow.told(0), 1);
        FewEnds wide = good("size 8 1;" + colour + "row w w w w w w w w;", 8);
        EDGES.good(wide, "told(0)", wide.told(0), 8);
        wrong("size ^0 1;", 4);
        wrong("size ^9 1;", 4);
        EDGES.says(12, "so many ROWS high (1 to 6)");
        EDGES.good(wide, "told(1)", wide.told(1), 1);
        FewEnds high = good("size 1 6;" + colour + times(6, "row w;"), 6);
        EDGES.good(high, "told(1)", high.told(1), 6);
        wrong("size 1 ^0;", 4);
        wrong("size 1 ^7;", 4);
    }

    private static void colours() {
        EDGES.says(14, "what a twist costs behind it (SHOWS, 0 to 9)");
        for (int shows : new int[] {0, 9}) {
            FewEnds x = good("size 1 1;colour w shows " + shows + " yarn 1;row w;", 1);
            EDGES.good(x, "colour(0, 0)", x.colour(0, 0), shows);
        }
        wrong("size 1 1;colour w shows ^10 yarn 1;", 4);
        EDGES.says(14, "YARN by stitch (1 to 99)");
        for (int yarn : new int[] {1, 99}) {
            FewEnds x = good("size 1 1;colour w shows 1 yarn " + yarn + ";row w;", 1);
            EDGES.good(x, "colour(0, 1)", x.colour(0, 1), yarn);
        }
        wrong("size 1 1;colour w shows 1 yarn ^0;", 4);
        wrong("size 1 1;colour w shows 1 yarn ^100;", 4);
    }

    private static void coloursAtMost() {
        EDGES.says(14, "COLOURS, at most 5, numbered as they stand");
        FewEnds one = good(ONE, 1);
        EDGES.good(one, "told(2) of one", one.told(2), 1);
        FewEnds x = good("size 5 1;" + FIVE + "row e d c b a;", 5);
        EDGES.good(x, "told(2) of five", x.told(2), 5);
        EDGES.row(x, "stitch(i, 0)", i -> x.stitch(i, 0), 4, 3, 2, 1, 0);
        EDGES.none(x, "colour(5, 0)", x.colour(5, 0), 1);
        wrong("size 1 1;" + FIVE + "^colour f shows 1 yarn 1;", 6);
        wrong("size 1 1;" + FIVE + "row a;^colour", 6);
    }

    private static void rows() {
        EDGES.says(15, "row k tells the COLOURS of its stitches from the left (told ahead); as many as it is high.");
        FewEnds x = good("size 3 2;colour a shows 1 yarn 1;row a a a;colour b shows 1 yarn 1;row b a b;", 6);
        EDGES.row(x, "at(k, 1), its COLOUR", k -> x.stitch(x.at(k, 1), 0), 1, 0, 1);
        wrong("size 1 1;row ^w;colour w shows 1 yarn 1;", 3);
        wrong("size 1 2;colour w shows 1 yarn 1;row w;row ^b;colour b shows 1 yarn 1;", 3);
        wrong("size 1 2;colour w shows 1 yarn 1;row w;^", 8);
        good("size 1 2;colour w shows 1 yarn 1;row w;row w;", 2);
        wrong("size 1 2;colour w shows 1 yarn 1;row w;row w;^row w;", 6);
    }

    /** A setting from its least NUMBER to its greatest, and the ones just beyond; what told() tells. */
    private static void setting(String words, String word, String behind, int told, int low, int high) {
        EDGES.says(13, words);
        for (int n : new int[] {low, low + 1, high - 1, high}) {
            FewEnds x = good(ONE + word + " " + n + behind + ";", 1);
            EDGES.good(x, "told(" + told + ")", x.told(told), n);
        }
        wrong(ONE + word + " ^" + (high + 1) + behind + ";", 4);
        if (low > 0) {
            wrong(ONE + word + " ^" + (low - 1) + behind + ";", 4);
        }
    }

    private static void settings() {
        setting("END: what an end costs (0 to 99;", "end", "", 3, 0, 99);
        setting("CARRY (0 to 47;", "carry", " cost 1", 4, 0, 47);
        setting("TWIST: at every so manieth (1 to 9; 0, without it, and 0: never)", "twist", "", 6, 0, 9);
        setting("WAIT: within so many (0 to 7;", "wait", " cost 2", 7, 0, 7);
        setting("BALLS at one time (1 to 48;", "balls", " cost 1", 9, 1, 48);
        setting("STRAND: YARN for each carried (0 to 99;", "strand", "", 11, 0, 99);
        setting("SEW: what a stitch costs that is sewn on after (0 to 999;", "sew", "", 12, 0, 999);
        setting("ALTER: what altering one costs (0 to 999;", "alter", "", 13, 0, 999);
    }

    private static void costs() {
        setting("each costs (0 to 9; 0 without)", "carry 1 cost", "", 5, 0, 9);
        setting("costs (0 to 99; 1 without)", "wait 1 cost", "", 8, 0, 99);
        setting("each more costs (0 to 99; 0 without)", "balls 1 cost", "", 10, 0, 99);
    }

    private static void without() {
        FewEnds x = Check.knitted(ONE);
        String[] words = {"(0 to 99; 10 without). CARRY", "(0 to 47; 5 without)", "(0 to 9; 0 without)",
            "(1 to 9; 0, without it,", "(0 to 7; 3 without)", "(0 to 99; 1 without). BALLS", "(1 to 48; 48 without)",
            "(0 to 99; 0 without). STRAND", "(0 to 99; 1 without). SEW", "(0 to 999; 5 without). ALTER",
            "(0 to 999; 5 without). ROUND", "ROUND: knitted round, else there and back."};
        int[] due = {10, 5, 0, 0, 3, 1, 48, 0, 1, 5, 5, 0};
        for (int k = 0; k < words.length; k++) {
            EDGES.says(13, words[k]);
            EDGES.good(x, "told(" + (k + 3) + ") without it", x.told(k + 3), due[k]);
        }
        // What another CHART told is forgotten.
        String all = "end 1;carry 1 cost 1;twist 1;wait 1 cost 2;balls 1 cost 1;strand 2;sew 1;alter 1;round;";
        FewEnds y = Check.knitted(ONE + all);
        EDGES.good(y, "a CHART without them", Check.chart(y, ONE), 1);
        for (int k = 0; k < words.length; k++) {
            EDGES.says(13, words[k]);
            EDGES.good(y, "told(" + (k + 3) + ") without it, behind another CHART", y.told(k + 3), due[k]);
        }
    }

    private static void twistNever() {
        EDGES.says(17, "(1 to 9; 0, without it, and 0: never)");
        String far = "size 3 1;colour a shows 1 yarn 1;colour b shows 1 yarn 1;row a b a;carry 0 cost 0;";
        int[] due = {0, 0, 3, 3};
        String[] told = {"", "twist 0;", "twist 1;", "twist 9;"};
        for (int k = 0; k < told.length; k++) {
            FewEnds x = good(far + told[k], 3);
            EDGES.good(x, "lawful(0, 2) with " + told[k], x.lawful(0, 2), due[k]);
        }
        wrong(ONE + "twist 0;^twist 0;", 5);
    }

    private static void round() {
        EDGES.says(13, "1 if ROUND, else 0 (14)");
        FewEnds x = good(ONE + "round;", 1);
        EDGES.good(x, "told(14)", x.told(14), 1);
        wrong(ONE + "round^", 2);
        wrong(ONE + "round ^1;", 2);
        wrong(ONE + "round;^round;", 5);
    }

    // ---- FAULTS

    private static void firstAlongTheText() {
        EDGES.says(12, "FAULTS, the first along the text");
        wrong("size ^0 0;", 4);
        wrong("size 1 1;colour w shows ^10 yarn 100;row x;", 4);
        wrong(ONE + "end ^100;-", 4);
        wrong(ONE + "end 1;^end 100;", 5);
        wrong(HEAD + "row w^;row x;", 7);
        wrong(HEAD + "row w w;row ^x;row", 3);
        wrong(HEAD + "row w w;^-", 1);
    }

    private static void leastKind() {
        EDGES.says(12, "(of one TOKEN the least kind)");
        wrong("size 1 1 ^12345", 1);
        wrong("size 1 1;^55555;", 1);
        wrong(ONE + "end 1 ^100;", 2);
        wrong("size ^;", 2);
        wrong(HEAD + "row w w ^x;", 3);
        wrong(HEAD + "row w w ^abcdefghi;", 2);
        wrong(HEAD + "row w w ^row;", 2);
        wrong(HEAD + "row w w ^7;", 2);
        wrong(HEAD + "row w w ^77777;", 1);
        wrong(HEAD + "row ^;", 2);
        wrong(HEAD + "row w^", 2);
    }

    private static void endOfText() {
        EDGES.says(12, "2 it can't stand there (the end: the text's length;");
        wrong("^", 2);
        wrong("size  \n ^", 2);
        wrong(HEAD + "row w b \n\n^", 2);
        wrong(ONE + "carry 1 cost^", 2);
        wrong(ONE + "round  ^", 2);
        FewEnds x = new FewEnds();
        Check.feed(x, ONE + "round;");
        EDGES.none(x, "chart() ahead of the last ;", x.chart(ONE.length() + 5), 9);
        EDGES.due("fault(0) of it", x.fault(0), 2);
        EDGES.due("fault(1) of it", x.fault(1), ONE.length() + 5);
        Check.feed(x, ONE + "end 999;");
        EDGES.none(x, "chart() up to end 99", x.chart(ONE.length() + 6), 9);
        EDGES.due("fault(0) of end 99", x.fault(0), 2);
        EDGES.due("fault(1) of end 99", x.fault(1), ONE.length() + 6);
        Check.feed(x, "size 1 1;colour w shows 1 yarn 1;row ww;");
        EDGES.none(x, "chart() up to row w", x.chart(38), 9);
        EDGES.due("fault(0) of row w", x.fault(0), 2);
        EDGES.due("fault(1) of row w", x.fault(1), 38);
    }

    private static void wrongNames() {
        EDGES.says(12, "3 colour with a NAME that a COLOUR has already; in a row a NAME that is none told ahead");
        wrong("size 1 1;colour w shows 1 yarn 1;colour ^w shows 1 yarn 1;", 3);
        wrong("size 1 1;" + FIVE.substring(0, 96) + "colour ^a", 3);
        wrong("size 1 1;colour abcdefgh shows 1 yarn 1;colour ^abcdefgh", 3);
        good("size 1 1;colour abcdefgh shows 1 yarn 1;colour bbcdefgh shows 1 yarn 1;colour abcdefgi shows 1 yarn 1;"
            + "colour abcdefg shows 1 yarn 1;row abcdefg;", 1);
        wrong("size 1 1;colour w shows 1 yarn 1;row ^ww;", 3);
        wrong("size 1 1;colour ww shows 1 yarn 1;row ^w;", 3);
        wrong(HEAD + "row w ^v;", 3);
        wrong(HEAD + "row w b;row b ^c;", 3);
    }

    private static void wrongNumbers() {
        EDGES.says(12, "4 a NUMBER that can't be. 5 one of");
        wrong("size ^0 1;", 4);
        wrong("size 1 ^0;", 4);
        wrong("size 1 1;colour w shows ^10", 4);
        wrong("size 1 1;colour w shows 1 yarn ^0", 4);
        wrong(ONE + "end ^100", 4);
        wrong(ONE + "carry ^48", 4);
        wrong(ONE + "carry 1 cost ^10", 4);
        wrong(ONE + "twist ^10", 4);
        wrong(ONE + "wait ^8", 4);
        wrong(ONE + "wait 1 cost ^100", 4);
        wrong(ONE + "balls ^0", 4);
        wrong(ONE + "balls ^49", 4);
        wrong(ONE + "balls 1 cost ^100", 4);
        wrong(ONE + "strand ^100", 4);
        wrong(ONE + "sew ^1000", 4);
        wrong(ONE + "alter ^9999", 4);
    }

    private static void toldAlready() {
        EDGES.says(12, "5 one of end, carry, twist, wait, balls, strand, sew, alter, round told already (at that WORD)");
        String[] all = {"end 1;", "carry 1 cost 1;", "twist 1;", "wait 1 cost 1;", "balls 1 cost 1;", "strand 1;",
            "sew 1;", "alter 1;", "round;"};
        StringBuilder once = new StringBuilder(ONE);
        for (String part : all) {
            once.append(part);
        }
        good(once.toString(), 1);
        for (String part : all) {
            String word = part.substring(0, part.indexOf(part.contains(" ") ? ' ' : ';'));
            wrong(once + "^" + part, 5);
            wrong(once + "^" + word, 5);
            wrong("size 1 1;" + part + "^" + word, 5);
        }
    }

    private static void tooMany() {
        EDGES.says(12, "6 a sixth colour, a row too many (at that WORD), a NAME too many in one (at it)");
        wrong("size 1 1;" + FIVE + "^colour", 6);
        wrong("size 1 1;" + FIVE + "^colour f shows 1 yarn 1;row a;", 6);
        wrong(ONE + "^row w;", 6);
        wrong(ONE + "^row", 6);
        wrong("size 1 6;colour w shows 1 yarn 1;" + times(6, "row w;") + "^row w;", 6);
        wrong("size 1 1;colour w shows 1 yarn 1;row w ^w;", 6);
        wrong("size 8 1;colour w shows 1 yarn 1;row w w w w w w w w ^w;", 6);
    }

    private static void tooFew() {
        EDGES.says(12, "7 too few in a row (at the ; )");
        wrong(HEAD + "row w^;", 7);
        wrong(HEAD + "row w w;row w ^;", 7);
        wrong("size 8 1;colour w shows 1 yarn 1;row w w w w w w w^;", 7);
        EDGES.says(12, "8 too few rows (the end)");
        wrong("size 1 1;^", 8);
        wrong("size 1 1;colour w shows 1 yarn 1; \n^", 8);
        wrong("size 1 6;colour w shows 1 yarn 1;" + times(5, "row w;") + "^", 8);
        wrong(HEAD + "row w w;round;^", 8);
    }

    // ---- a CHART that is taken, or not

    private static void taken() {
        EDGES.says(10, "A CHART that is taken is there in place of that ahead; there is no LINK then, and no DIRECTIONS.");
        FewEnds x = Check.knitted("size 8 6;" + FIVE + times(6, "row a b c d e a b c;") + "round;end 3;");
        Check.link(x, 0, 5);
        Check.directions(x, "knit a 1;");
        EDGES.good(x, "a smaller CHART", Check.chart(x, HEAD + "row w w;row w b;"), 4);
        EDGES.row(x, "told", x::told, 2, 2, 2, 10);
        EDGES.row(x, "stitch(i, 0)", i -> x.stitch(i, 0), 0, 0, 1, 0);
        EDGES.links(x, -1, -1, -1, -1);
        EDGES.none(x, "follow()", x.follow(), 6);
        EDGES.none(x, "stitch(4, 0)", x.stitch(4, 0), 1);
        EDGES.none(x, "colour(2, 0)", x.colour(2, 0), 1);
        EDGES.good(x, "threads(NONE)", x.threads(-1), 4);
        Check.link(x, 0, 1);
        Check.directions(x, "knit w 1;");
        EDGES.good(x, "the same CHART", Check.chart(x, HEAD + "row w w;row w b;"), 4);
        EDGES.links(x, -1, -1, -1, -1);
        EDGES.none(x, "follow() on the same CHART", x.follow(), 6);
    }

    private static void oldOneStays() {
        EDGES.says(10, "9: the old one stays");
        FewEnds x = Check.knitted(HEAD + "row w w;row w b;end 7;");
        Check.link(x, 0, 1);
        Check.directions(x, "knit w 2;");
        // The FAULT is the last thing in a CHART that is all another one.
        EDGES.none(x, "a CHART with a FAULT", Check.chart(x, "size 1 1;" + FIVE + "row e;end 1;round;round;"), 9);
        EDGES.row(x, "told", x::told, 2, 2, 2, 7, 5, 0, 0, 3, 1, 48, 0, 1, 5, 5, 0);
        EDGES.row(x, "stitch(i, 0)", i -> x.stitch(i, 0), 0, 0, 1, 0);
        EDGES.links(x, 1, -1, -1, -1);
        EDGES.good(x, "follow(): DIRECTIONS stay", x.follow(), 1);
        EDGES.good(x, "followed(0)", x.followed(0), 2);
    }

    private static void fault() {
        EDGES.says(12, "Of the latest chart() or directions() with STATUS 0 or 9, "
            + "what 0: the FAULT (0 without one), 1: its place (NONE without). NONE for others, and ahead of any.");
        FewEnds x = new FewEnds();
        for (int what = -1; what <= 2; what++) {
            EDGES.due("fault(" + what + ") ahead of any", x.fault(what), -1);
        }
        x.chart(1);
        x.directions(1);
        EDGES.due("fault(0) behind a STATUS of 1", x.fault(0), -1);
        Check.chart(x, "size 0");
        for (int what : new int[] {Integer.MIN_VALUE, -1, 2, Integer.MAX_VALUE}) {
            EDGES.due("fault(" + what + ")", x.fault(what), -1);
        }
        EDGES.due("fault(0) of a CHART", x.fault(0), 4);
        EDGES.due("fault(1) of a CHART", x.fault(1), 5);
        x.chart(-1);
        x.directions(301);
        EDGES.due("fault(0): a STATUS of 1 leaves it", x.fault(0), 4);
        EDGES.due("fault(1): a STATUS of 1 leaves it", x.fault(1), 5);
        Check.directions(x, "cut a;");
        EDGES.due("fault(0) of DIRECTIONS", x.fault(0), 3);
        EDGES.due("fault(1) of DIRECTIONS", x.fault(1), 4);
        Check.directions(x, "");
        EDGES.due("fault(0) without one", x.fault(0), 0);
        EDGES.due("fault(1) without one", x.fault(1), -1);
        Check.directions(x, "cut ");
        Check.chart(x, ONE);
        EDGES.due("fault(0) without one, a CHART's", x.fault(0), 0);
        EDGES.due("fault(1) without one, a CHART's", x.fault(1), -1);
        x.mark();
        Check.chart(x, "size");
        x.back();
        EDGES.due("fault(0): back() leaves it", x.fault(0), 2);
    }
}
