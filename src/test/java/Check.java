/** Counts answers that are as due, and prints those that are not. */
final class Check {
    private int passed;
    private int failed;

    void due(int promise, String what, long got, long want) {
        if (got == want) {
            passed++;
        } else {
            failed++;
            System.out.println("promise " + promise + ": " + what + " answered " + got + ", due is " + want);
        }
    }

    void due(int promise, String what, boolean got, boolean want) {
        due(promise, what, got ? 1 : 0, want ? 1 : 0);
    }

    /** An answer with STATUS 0. */
    void good(int promise, FewEnds x, String what, long got, long want) {
        due(promise, what, got, want);
        due(promise, "status() behind " + what, x.status(), 0);
    }

    void good(int promise, FewEnds x, String what, boolean got) {
        good(promise, x, what, got ? 1 : 0, 1);
    }

    /** NONE with another STATUS. */
    void none(int promise, FewEnds x, String what, long got, int status) {
        due(promise, what, got, FewEnds.NONE);
        due(promise, "status() behind " + what, x.status(), status);
    }

    void refused(int promise, FewEnds x, String what, boolean got, int status) {
        due(promise, what, got, false);
        due(promise, "status() behind " + what, x.status(), status);
    }

    void end(String test) {
        System.out.println(test + ": " + passed + " answers as due, " + failed + " not");
        if (failed > 0 || passed == 0) {
            System.exit(1);
        }
    }

    // ---- texts for the tape

    /** Feeds a text, filled up to whole feeds; how many bytes it has itself. */
    static int feed(FewEnds x, String text) {
        byte[] bytes = new byte[(text.length() + 19) / 20 * 20];
        for (int k = 0; k < text.length(); k++) {
            bytes[k] = (byte) text.charAt(k);
        }
        for (int k = 0; k < bytes.length; k += 20) {
            x.feed(four(bytes, k), four(bytes, k + 4), four(bytes, k + 8), four(bytes, k + 12), four(bytes, k + 16));
        }
        return text.length();
    }

    private static int four(byte[] bytes, int from) {
        int number = 0;
        for (int k = from; k < from + 4; k++) {
            number = number << 8 | bytes[k] & 255;
        }
        return number;
    }

    static int chart(FewEnds x, String text) {
        return x.chart(feed(x, text));
    }

    static int directions(FewEnds x, String text) {
        return x.directions(feed(x, text));
    }

    /** A new object with that CHART. */
    static FewEnds knitted(String text) {
        FewEnds x = new FewEnds();
        if (chart(x, text) == FewEnds.NONE) {
            throw new IllegalStateException("FAULT " + x.fault(0) + " at " + x.fault(1) + " of " + text);
        }
        return x;
    }

    /** LINKS by couples of STITCHES. */
    static void link(FewEnds x, int... couples) {
        for (int k = 0; k < couples.length; k += 2) {
            if (!x.link(couples[k], couples[k + 1])) {
                throw new IllegalStateException("no LINK from " + couples[k] + " to " + couples[k + 1]);
            }
        }
    }
}
