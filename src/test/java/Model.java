import java.util.ArrayList;
import java.util.Arrays;
import java.util.HashMap;
import java.util.HashSet;
import java.util.List;
import java.util.Map;
import java.util.Set;
import java.util.TreeMap;
import java.util.TreeSet;

/**
 * The document once more, as plainly as can be and by other ways than the program: for ModelTest, that
 * compares the two. It makes objects as it likes and throws where a call has another STATUS than 0.
 */
public final class Model {
    private static final class Refused extends RuntimeException {
        private static final long serialVersionUID = 1;
        final int status;

        Refused(int why) {
            super(null, null, false, false);
            status = why;
        }
    }

    private static final class Fault extends RuntimeException {
        private static final long serialVersionUID = 1;
        final int kind;
        final int place;

        Fault(int what, int where) {
            super(null, null, false, false);
            kind = what;
            place = where;
        }
    }

    private static final class Token {
        final String text;
        final int place;
        final boolean strange;

        Token(String letters, int where, boolean unknown) {
            text = letters;
            place = where;
            strange = unknown;
        }

        boolean isWord() {
            return !strange && text.matches("[a-z]+");
        }

        boolean isNumber() {
            return !strange && text.matches("[0-9]+");
        }
    }

    private static final class Picture implements Cloneable {
        int width;
        int height;
        List<String> names = new ArrayList<>();
        List<int[]> colours = new ArrayList<>();
        List<int[]> rows = new ArrayList<>();
        Map<String, Integer> set = new TreeMap<>();

        Picture() {
            Object[] start = {"end", 10, "carry", 5, "carry cost", 0, "twist", 0, "wait", 3, "wait cost", 1,
                "balls", 48, "balls cost", 0, "strand", 1, "sew", 5, "alter", 5, "round", 0};
            for (int k = 0; k < start.length; k += 2) {
                set.put((String) start[k], (Integer) start[k + 1]);
            }
        }

        Picture copy() {
            Picture p = new Picture();
            p.width = width;
            p.height = height;
            p.names.addAll(names);
            p.colours.addAll(colours);
            for (int[] row : rows) {
                p.rows.add(row.clone());
            }
            p.set.putAll(set);
            return p;
        }

        int get(String what) {
            return set.get(what);
        }

        boolean round() {
            return get("round") == 1;
        }

        /** The STITCHES in order: place, ROW. */
        List<int[]> order() {
            List<int[]> all = new ArrayList<>();
            for (int r = 0; r < height; r++) {
                for (int k = 0; k < width; k++) {
                    all.add(new int[] {round() || r % 2 == 0 ? k : width - 1 - k, r});
                }
            }
            return all;
        }
    }

    private record Step(String kind, int colour, int number) {
    }

    private record Kept(Picture picture, int[] links, List<Step> steps) {
    }

    private int status;
    private long top = 0;
    private long bottom = 1;
    private final long[][] trays = new long[4][];
    private final int[] sorts = new int[4];
    private StringBuilder tape = new StringBuilder();
    private int faultKind = -1;
    private int faultPlace = -1;
    private Picture picture = new Picture();
    private List<int[]> order = new ArrayList<>();
    // Of each STITCH the one to which a LINK goes from it, or -1.
    private int[] links = new int[0];
    private List<Step> steps = null;
    private final List<Kept> marks = new ArrayList<>();
    private List<int[]> few = new ArrayList<>();
    private int[] followed = null;
    private int[] followedLinks = null;

    // ---- calling

    private interface Call {
        long answer();
    }

    private long call(Call call) {
        try {
            long answer = call.answer();
            status = 0;
            return answer;
        } catch (Refused r) {
            status = r.status;
            return -1;
        }
    }

    private boolean agree(Call call) {
        return call(call) == 1;
    }

    private static void need(boolean holds, int otherwise) {
        if (!holds) {
            throw new Refused(otherwise);
        }
    }

    public int status() {
        return status;
    }

    public long top() {
        return top;
    }

    public long bottom() {
        return bottom;
    }

    // ---- what texts and arguments can be made of; these calls leave STATUS alone

    int width() {
        return picture.width;
    }

    int height() {
        return picture.height;
    }

    List<String> names() {
        return picture.names;
    }

    int stitches() {
        return order.size();
    }

    int hueAt(int i) {
        return hue(i);
    }

    // ---- TRAYS

    public boolean tray(int tray, int sort, int many) {
        return agree(() -> {
            need(tray >= 0 && tray < 4 && sort >= 0 && sort < 4 && many >= 0 && many <= 60, 1);
            trays[tray] = new long[many];
            sorts[tray] = sort;
            return 1;
        });
    }

    private long[] trayOf(int tray) {
        need(tray >= 0 && tray < 4, 1);
        need(trays[tray] != null, 2);
        return trays[tray];
    }

    public boolean write(int tray, int place, long v) {
        return agree(() -> {
            long[] row = trayOf(tray);
            need(place >= 0 && place < row.length, 3);
            int lost = 64 - (8 << sorts[tray]);
            row[place] = v << lost >> lost;
            return 1;
        });
    }

    public long read(int tray, int place) {
        return call(() -> {
            long[] row = trayOf(tray);
            need(place >= 0 && place < row.length, 3);
            return row[place];
        });
    }

    public boolean pour(int from, int place, int to, int at, int many) {
        return agree(() -> {
            need(from >= 0 && from < 4 && to >= 0 && to < 4 && place >= 0 && at >= 0 && many >= 0, 1);
            need(trays[from] != null && trays[to] != null, 2);
            need(sorts[from] == sorts[to], 8);
            need((long) place + many <= trays[from].length && (long) at + many <= trays[to].length, 3);
            long[] poured = Arrays.copyOfRange(trays[from], place, place + many);
            for (int k = 0; k < many; k++) {
                trays[to][at + k] = poured[k];
            }
            return 1;
        });
    }

    // ---- the CHART

    public int feed(int a, int b, int c, int d, int e) {
        if (tape.length() + 20 > 800) {
            return -1;
        }
        for (int four : new int[] {a, b, c, d, e}) {
            for (int k = 0; k < 4; k++) {
                tape.append((char) (four >>> 24 - 8 * k & 255));
            }
        }
        return tape.length();
    }

    private static List<Token> tokens(String text) {
        List<Token> all = new ArrayList<>();
        int k = 0;
        while (k < text.length()) {
            char c = text.charAt(k);
            if (c == ' ' || c == '\n') {
                k++;
                continue;
            }
            String sort = c >= 'a' && c <= 'z' ? "[a-z]" : c >= '0' && c <= '9' ? "[0-9]" : "";
            int end = k + 1;
            while (!sort.isEmpty() && end < text.length() && text.substring(end, end + 1).matches(sort)) {
                end++;
            }
            boolean strange = sort.isEmpty() && c != ';' || sort.equals("[0-9]") && end - k > 4;
            all.add(new Token(text.substring(k, end), k, strange));
            k = end;
        }
        all.add(new Token("", text.length(), false));
        return all;
    }

    private List<Token> reading;
    private int at;

    private Token next() {
        Token t = reading.get(at);
        at++;
        if (t.strange) {
            throw new Fault(1, t.place);
        }
        return t;
    }

    private Token next(String wanted) {
        Token t = next();
        if (!t.text.equals(wanted)) {
            throw new Fault(2, t.place);
        }
        return t;
    }

    private int number(int low, int high) {
        Token t = next();
        if (!t.isNumber()) {
            throw new Fault(2, t.place);
        }
        int n = Integer.parseInt(t.text);
        if (n < low || n > high) {
            throw new Fault(4, t.place);
        }
        return n;
    }

    private static final Set<String> KEPT = Set.of("size", "colour", "shows", "yarn", "row", "end", "carry",
        "cost", "twist", "wait", "balls", "strand", "sew", "alter", "round");
    private static final Map<String, int[]> RANGES = new HashMap<>();

    static {
        RANGES.put("end", new int[] {0, 99});
        RANGES.put("carry", new int[] {0, 47, 9});
        RANGES.put("twist", new int[] {0, 9});
        RANGES.put("wait", new int[] {0, 7, 99});
        RANGES.put("balls", new int[] {1, 48, 99});
        RANGES.put("strand", new int[] {0, 99});
        RANGES.put("sew", new int[] {0, 999});
        RANGES.put("alter", new int[] {0, 999});
        RANGES.put("round", new int[] {});
    }

    private Picture readPicture(String text) {
        reading = tokens(text);
        at = 0;
        Picture p = new Picture();
        next("size");
        p.width = number(1, 8);
        p.height = number(1, 6);
        next(";");
        Set<String> told = new HashSet<>();
        while (true) {
            Token t = next();
            if (t.text.isEmpty()) {
                if (p.rows.size() < p.height) {
                    throw new Fault(8, t.place);
                }
                return p;
            }
            if (t.text.equals("colour")) {
                readColour(p, t);
            } else if (t.text.equals("row")) {
                readRow(p, t);
            } else if (RANGES.containsKey(t.text)) {
                if (!told.add(t.text)) {
                    throw new Fault(5, t.place);
                }
                int[] range = RANGES.get(t.text);
                p.set.put(t.text, range.length == 0 ? 1 : number(range[0], range[1]));
                if (range.length == 3) {
                    next("cost");
                    p.set.put(t.text + " cost", number(0, range[2]));
                }
                next(";");
            } else {
                throw new Fault(2, t.place);
            }
        }
    }

    private static boolean isName(Token t, Set<String> kept) {
        return t.isWord() && t.text.length() <= 8 && !kept.contains(t.text);
    }

    private void readColour(Picture p, Token word) {
        if (p.names.size() == 5) {
            throw new Fault(6, word.place);
        }
        Token name = next();
        if (!isName(name, KEPT)) {
            throw new Fault(2, name.place);
        }
        if (p.names.contains(name.text)) {
            throw new Fault(3, name.place);
        }
        next("shows");
        int shows = number(0, 9);
        next("yarn");
        int yarn = number(1, 99);
        next(";");
        p.names.add(name.text);
        p.colours.add(new int[] {shows, yarn});
    }

    private void readRow(Picture p, Token word) {
        if (p.rows.size() == p.height) {
            throw new Fault(6, word.place);
        }
        List<Integer> row = new ArrayList<>();
        while (true) {
            Token t = next();
            if (t.text.equals(";") && !row.isEmpty()) {
                if (row.size() < p.width) {
                    throw new Fault(7, t.place);
                }
                p.rows.add(row.stream().mapToInt(Integer::intValue).toArray());
                return;
            }
            if (!isName(t, KEPT)) {
                throw new Fault(2, t.place);
            }
            if (!p.names.contains(t.text)) {
                throw new Fault(3, t.place);
            }
            if (row.size() == p.width) {
                throw new Fault(6, t.place);
            }
            row.add(p.names.indexOf(t.text));
        }
    }

    private String takeTape(int n) {
        String text = tape.substring(0, n);
        tape = new StringBuilder();
        faultKind = 0;
        faultPlace = -1;
        return text;
    }

    public int chart(int n) {
        return (int) call(() -> {
            need(n >= 0 && n <= tape.length(), 1);
            try {
                show(readPicture(takeTape(n)));
            } catch (Fault f) {
                faultKind = f.kind;
                faultPlace = f.place;
                throw new Refused(9);
            }
            steps = null;
            followedLinks = null;
            return order.size();
        });
    }

    private void show(Picture p) {
        picture = p;
        order = p.order();
        links = new int[order.size()];
        Arrays.fill(links, -1);
    }

    public int directions(int n) {
        return (int) call(() -> {
            need(n >= 0 && n <= tape.length() && n <= 300, 1);
            try {
                List<Step> read = readSteps(takeTape(n));
                steps = read;
            } catch (Fault f) {
                faultKind = f.kind;
                faultPlace = f.place;
                throw new Refused(9);
            }
            return steps.stream().filter(s -> !s.kind.equals("end")).count();
        });
    }

    private List<Step> readSteps(String text) {
        reading = tokens(text);
        at = 0;
        List<Step> all = new ArrayList<>();
        int many = 0;
        int depth = 0;
        while (true) {
            Token t = next();
            if (t.text.isEmpty() && depth == 0) {
                return all;
            }
            if (t.text.equals("end") && depth > 0) {
                depth--;
                all.add(new Step("end", -1, 0));
                next(";");
                continue;
            }
            if (!List.of("knit", "cut", "loop").contains(t.text)) {
                throw new Fault(2, t.place);
            }
            many++;
            if (many > 40) {
                throw new Fault(6, t.place);
            }
            int colour = -1;
            if (t.text.equals("loop")) {
                depth++;
                if (depth > 3) {
                    throw new Fault(7, t.place);
                }
            } else {
                Token name = next();
                if (!isName(name, Set.of("knit", "cut", "loop", "end"))) {
                    throw new Fault(2, name.place);
                }
                colour = picture.names.indexOf(name.text);
                if (colour < 0) {
                    throw new Fault(3, name.place);
                }
            }
            all.add(new Step(t.text, colour, t.text.equals("cut") ? 0 : number(1, 48)));
            next(";");
        }
    }

    public int fault(int what) {
        return what == 0 ? faultKind : what == 1 ? faultPlace : -1;
    }

    public int told(int what) {
        return (int) call(() -> {
            String[] names = {"", "", "", "end", "carry", "carry cost", "twist", "wait", "wait cost", "balls",
                "balls cost", "strand", "sew", "alter", "round"};
            need(what >= 0 && what < names.length, 1);
            if (what < 3) {
                return what == 0 ? picture.width : what == 1 ? picture.height : picture.names.size();
            }
            return picture.get(names[what]);
        });
    }

    private int hue(Picture p, List<int[]> stitches, int i) {
        return p.rows.get(stitches.get(i)[1])[stitches.get(i)[0]];
    }

    private int hue(int i) {
        return hue(picture, order, i);
    }

    private void needStitch(int i) {
        need(i >= 0 && i < order.size(), 1);
    }

    private void needRow(int row) {
        need(row >= 0 && row < picture.height, 1);
    }

    private void needColour(int c) {
        need(c >= 0 && c < picture.names.size(), 1);
    }

    private void needRange(int n, int low, int high) {
        need(n >= low && n <= high, 1);
    }

    private void needCouple(int i, int j) {
        needStitch(i);
        needStitch(j);
        need(i < j, 1);
    }

    public int colour(int colour, int what) {
        return (int) call(() -> {
            needColour(colour);
            needRange(what, 0, 2);
            return what < 2 ? picture.colours.get(colour)[what]
                : picture.rows.stream().flatMapToInt(Arrays::stream).filter(c -> c == colour).count();
        });
    }

    public int stitch(int stitch, int what) {
        return (int) call(() -> {
            needStitch(stitch);
            needRange(what, 0, 2);
            return what == 0 ? hue(stitch) : order.get(stitch)[what - 1];
        });
    }

    public int at(int x, int row) {
        return (int) call(() -> {
            needRow(row);
            needRange(x, 0, picture.width - 1);
            for (int i = 0; i < order.size(); i++) {
                if (order.get(i)[0] == x && order.get(i)[1] == row) {
                    return i;
                }
            }
            throw new IllegalStateException();
        });
    }

    private int way(Picture p, List<int[]> stitches, int i, int j) {
        if (i >= j || hue(p, stitches, i) != hue(p, stitches, j)) {
            return 0;
        }
        int d = j - i - 1;
        int rows = stitches.get(j)[1] - stitches.get(i)[1];
        if (d == 0) {
            return 1;
        }
        if (p.round() || rows == 0) {
            return d <= p.get("carry") ? 2 : p.get("twist") != 0 ? 3 : 0;
        }
        int apart = Math.abs(stitches.get(i)[0] - stitches.get(j)[0]);
        return rows == 1 && apart <= p.get("wait") ? 4 : 0;
    }

    private int price(Picture p, List<int[]> stitches, int i, int j) {
        int d = j - i - 1;
        switch (way(p, stitches, i, j)) {
            case 2:
                return d * p.get("carry cost");
            case 3:
                int sum = d * p.get("carry cost");
                for (int k = 1; k <= d; k++) {
                    if (k % p.get("twist") == 0) {
                        sum += p.colours.get(hue(p, stitches, i + k))[0];
                    }
                }
                return sum;
            case 4:
                return p.get("wait cost");
            default:
                return 0;
        }
    }

    private int strand(int i, int j) {
        int way = way(picture, order, i, j);
        return way == 4 ? picture.get("strand") * Math.abs(order.get(i)[0] - order.get(j)[0])
            : way == 1 ? 0 : picture.get("strand") * (j - i - 1);
    }

    public int lawful(int i, int j) {
        return (int) call(() -> {
            needCouple(i, j);
            return way(picture, order, i, j);
        });
    }

    public int cost(int i, int j) {
        return (int) call(() -> {
            needCouple(i, j);
            need(way(picture, order, i, j) != 0, 7);
            return price(picture, order, i, j);
        });
    }

    public int yarnOf(int i, int j) {
        return (int) call(() -> {
            needCouple(i, j);
            need(way(picture, order, i, j) != 0, 7);
            return strand(i, j);
        });
    }

    // ---- the PLAN

    private static int comesTo(int[] plan, int j) {
        for (int i = 0; i < plan.length; i++) {
            if (plan[i] == j) {
                return i;
            }
        }
        return -1;
    }

    public boolean link(int i, int j) {
        return agree(() -> {
            needCouple(i, j);
            need(way(picture, order, i, j) != 0 && links[i] < 0 && comesTo(links, j) < 0, 7);
            links[i] = j;
            return 1;
        });
    }

    public boolean unlink(int i) {
        return agree(() -> {
            needStitch(i);
            need(links[i] >= 0, 6);
            links[i] = -1;
            return 1;
        });
    }

    public boolean clear() {
        return agree(() -> {
            Arrays.fill(links, -1);
            return 1;
        });
    }

    public boolean plan(int tray, int many) {
        return agree(() -> {
            need(tray >= 0 && tray < 4 && many >= 0 && many <= 30, 1);
            long[] row = trayOf(tray);
            need(row.length >= 2 * many, 3);
            for (int k = 0; k < many; k++) {
                long i = row[2 * k];
                long j = row[2 * k + 1];
                need(i >= 0 && i < order.size() && j >= 0 && j < order.size() && i < j, 5);
            }
            int[] made = new int[order.size()];
            Arrays.fill(made, -1);
            for (int k = 0; k < many; k++) {
                int i = (int) row[2 * k];
                int j = (int) row[2 * k + 1];
                need(way(picture, order, i, j) != 0 && made[i] < 0 && comesTo(made, j) < 0, 7);
                made[i] = j;
            }
            links = made;
            return 1;
        });
    }

    public int goes(int stitch) {
        return (int) call(() -> {
            needStitch(stitch);
            need(links[stitch] >= 0, 6);
            return links[stitch];
        });
    }

    public int comes(int stitch) {
        return (int) call(() -> {
            needStitch(stitch);
            need(comesTo(links, stitch) >= 0, 6);
            return comesTo(links, stitch);
        });
    }

    /** THREADS as rows of STITCHES. */
    private List<List<Integer>> threads(int[] plan) {
        List<List<Integer>> all = new ArrayList<>();
        for (int i = 0; i < plan.length; i++) {
            if (comesTo(plan, i) < 0) {
                List<Integer> thread = new ArrayList<>();
                for (int k = i; k >= 0; k = plan[k]) {
                    thread.add(k);
                }
                all.add(thread);
            }
        }
        return all;
    }

    private int yarnOf(List<Integer> thread) {
        int sum = 0;
        for (int k = 0; k < thread.size(); k++) {
            sum += picture.colours.get(hue(thread.get(k)))[1];
            if (k > 0) {
                sum += strand(thread.get(k - 1), thread.get(k));
            }
        }
        return sum;
    }

    public int threads(int colour) {
        return (int) call(() -> {
            if (colour != -1) {
                needColour(colour);
            }
            return threads(links).stream().filter(t -> colour == -1 || hue(t.get(0)) == colour).count();
        });
    }

    public int thread(int thread, int what) {
        return (int) call(() -> {
            List<List<Integer>> all = threads(links);
            needRange(thread, 0, all.size() - 1);
            needRange(what, 0, 4);
            List<Integer> t = all.get(thread);
            return new int[] {hue(t.get(0)), t.get(0), t.get(t.size() - 1), t.size(), yarnOf(t)}[what];
        });
    }

    private int hanging(int[] plan, int row) {
        int many = 0;
        for (List<Integer> t : threads(plan)) {
            int from = order.get(t.get(0))[1];
            int to = order.get(t.get(t.size() - 1))[1];
            many += from <= row && row <= to ? 1 : 0;
        }
        return many;
    }

    private int tangled(int[] plan, int row) {
        int above = hanging(plan, row) - picture.get("balls");
        return above > 0 ? above * picture.get("balls cost") : 0;
    }

    private int costOf(int[] plan) {
        int sum = 0;
        for (List<Integer> t : threads(plan)) {
            sum += 2 * picture.get("end");
            for (int k = 1; k < t.size(); k++) {
                sum += price(picture, order, t.get(k - 1), t.get(k));
            }
        }
        for (int row = 0; row < picture.height; row++) {
            sum += tangled(plan, row);
        }
        return sum;
    }

    public int hangs(int row) {
        return (int) call(() -> {
            needRow(row);
            return hanging(links, row);
        });
    }

    public int tangle(int row) {
        return (int) call(() -> {
            needRow(row);
            return tangled(links, row);
        });
    }

    public int planCost() {
        return (int) call(() -> costOf(links));
    }

    public int longest() {
        return (int) call(() -> {
            int most = 0;
            for (int i = 0; i < links.length; i++) {
                int way = links[i] < 0 ? 0 : way(picture, order, i, links[i]);
                if (way == 2 || way == 3) {
                    most = Math.max(most, links[i] - i - 1);
                }
            }
            return most;
        });
    }

    private int yarnFor(int colour) {
        return threads(links).stream().filter(t -> hue(t.get(0)) == colour).mapToInt(this::yarnOf).sum();
    }

    public int yarn(int colour) {
        return (int) call(() -> {
            needColour(colour);
            return yarnFor(colour);
        });
    }

    // ---- the least

    /** The least of a COLOUR by flows: STITCH by STITCH the cheapest way by edges that can be turned. */
    private int leastOf(Picture p, int colour, boolean count) {
        List<int[]> stitches = p.order();
        List<Integer> own = new ArrayList<>();
        for (int i = 0; i < stitches.size(); i++) {
            if (hue(p, stitches, i) == colour) {
                own.add(i);
            }
        }
        int n = own.size();
        int[][] price = new int[n][n];
        for (int a = 0; a < n; a++) {
            for (int b = 0; b < n; b++) {
                boolean can = way(p, stitches, own.get(a), own.get(b)) != 0;
                price[a][b] = !can ? -1 : count ? 0 : price(p, stitches, own.get(a), own.get(b));
            }
        }
        return flow(price, n, count ? 1 : 2 * p.get("end"));
    }

    /** price[source][goal], below 0 where there is no way; goals without a source cost alone. */
    private static int flow(int[][] price, int goals, int alone) {
        int[] sourceOf = new int[goals];
        Arrays.fill(sourceOf, -1);
        int sum = goals * alone;
        while (true) {
            // What giving a source that is free to a goal, and changing others, saves at most.
            int sources = price.length;
            int[] goalOf = new int[sources];
            Arrays.fill(goalOf, -1);
            for (int g = 0; g < goals; g++) {
                if (sourceOf[g] >= 0) {
                    goalOf[sourceOf[g]] = g;
                }
            }
            int far = 1 << 28;
            int[] toSource = new int[sources];
            int[] toGoal = new int[goals];
            int[] from = new int[goals];
            Arrays.fill(toSource, far);
            Arrays.fill(toGoal, far);
            for (int s = 0; s < sources; s++) {
                if (goalOf[s] < 0) {
                    toSource[s] = 0;
                }
            }
            for (boolean changed = true; changed;) {
                changed = false;
                for (int s = 0; s < sources; s++) {
                    for (int g = 0; g < goals; g++) {
                        if (toSource[s] < far && price[s][g] >= 0 && sourceOf[g] != s
                            && toSource[s] + price[s][g] < toGoal[g]) {
                            toGoal[g] = toSource[s] + price[s][g];
                            from[g] = s;
                            changed = true;
                            if (sourceOf[g] >= 0) {
                                toSource[sourceOf[g]] = toGoal[g] - price[sourceOf[g]][g];
                            }
                        }
                    }
                }
            }
            int best = -1;
            for (int g = 0; g < goals; g++) {
                if (sourceOf[g] < 0 && toGoal[g] < far && (best < 0 || toGoal[g] < toGoal[best])) {
                    best = g;
                }
            }
            if (best < 0 || toGoal[best] >= alone) {
                return sum;
            }
            sum += toGoal[best] - alone;
            int g = best;
            while (true) {
                int s = from[g];
                int old = goalOf[s];
                sourceOf[g] = s;
                if (old < 0) {
                    break;
                }
                g = old;
            }
        }
    }

    private int leastOfAll(Picture p) {
        int sum = 0;
        for (int c = 0; c < p.names.size(); c++) {
            sum += leastOf(p, c, false);
        }
        return sum;
    }

    private int overColours(int colour, java.util.function.IntUnaryOperator each) {
        if (colour != -1) {
            needColour(colour);
            return each.applyAsInt(colour);
        }
        int sum = 0;
        for (int c = 0; c < picture.names.size(); c++) {
            sum += each.applyAsInt(c);
        }
        return sum;
    }

    public int least(int colour) {
        return (int) call(() -> overColours(colour, c -> leastOf(picture, c, false)));
    }

    public int fewest(int colour) {
        return (int) call(() -> overColours(colour, c -> leastOf(picture, c, true)));
    }

    public int gap() {
        return (int) call(() -> costOf(links) - leastOfAll(picture));
    }

    public boolean worth() {
        return agree(() -> {
            int whole = costOf(links);
            need(whole != 0, 6);
            int part = leastOfAll(picture);
            int divisor = java.math.BigInteger.valueOf(whole).gcd(java.math.BigInteger.valueOf(part)).intValue();
            top = part / divisor;
            bottom = whole / divisor;
            return 1;
        });
    }

    public int rowAlone(int row) {
        return (int) call(() -> {
            needRow(row);
            int[] ahead = links.clone();
            for (int i = 0; i < ahead.length; i++) {
                if (order.get(i)[1] >= row || ahead[i] >= 0 && order.get(ahead[i])[1] >= row) {
                    ahead[i] = -1;
                }
            }
            Set<Integer> sources = new TreeSet<>();
            for (List<Integer> t : threads(ahead)) {
                int last = t.get(t.size() - 1);
                if (order.get(last)[1] == row - 1) {
                    sources.add(last);
                }
            }
            List<Integer> goals = new ArrayList<>();
            for (int i = 0; i < order.size(); i++) {
                if (order.get(i)[1] == row) {
                    goals.add(i);
                    sources.add(i);
                }
            }
            return cheapest(goals, 0, new ArrayList<>(sources), 0, new HashMap<>());
        });
    }

    private int cheapest(List<Integer> goals, int g, List<Integer> sources, int used, Map<Integer, Integer> known) {
        if (g == goals.size()) {
            return 0;
        }
        int key = used * 8 + g;
        if (!known.containsKey(key)) {
            int least = 2 * picture.get("end") + cheapest(goals, g + 1, sources, used, known);
            for (int s = 0; s < sources.size(); s++) {
                if ((used >> s & 1) == 0 && way(picture, order, sources.get(s), goals.get(g)) != 0) {
                    int price = price(picture, order, sources.get(s), goals.get(g));
                    least = Math.min(least, price + cheapest(goals, g + 1, sources, used | 1 << s, known));
                }
            }
            known.put(key, least);
        }
        return known.get(key);
    }

    public int other() {
        return (int) call(() -> {
            Picture p = picture.copy();
            p.set.put("round", 1 - p.get("round"));
            return leastOfAll(p);
        });
    }

    private static Picture altered(Picture p, int stitch, int colour) {
        Picture q = p.copy();
        int[] where = p.order().get(stitch);
        q.rows.get(where[1])[where[0]] = colour;
        return q;
    }

    public int saves(int stitch, int colour) {
        return (int) call(() -> {
            needStitch(stitch);
            needColour(colour);
            need(hue(stitch) != colour, 1);
            return leastOfAll(picture) - leastOfAll(altered(picture, stitch, colour)) - picture.get("alter");
        });
    }

    /** What it SAVES, the STITCH, the COLOUR. */
    private int[] bestOf(Picture p) {
        int now = leastOfAll(p);
        int[] best = null;
        List<int[]> stitches = p.order();
        for (int i = 0; i < stitches.size(); i++) {
            for (int c = 0; c < p.names.size(); c++) {
                if (c != hue(p, stitches, i)) {
                    int saves = now - leastOfAll(altered(p, i, c)) - p.get("alter");
                    if (best == null || saves > best[0]) {
                        best = new int[] {saves, i, c};
                    }
                }
            }
        }
        return best;
    }

    public int best(int what) {
        return (int) call(() -> {
            needRange(what, 0, 2);
            need(picture.names.size() >= 2 && !order.isEmpty(), 6);
            return bestOf(picture)[what];
        });
    }

    public int few(int many) {
        return (int) call(() -> {
            needRange(many, 1, 4);
            few = new ArrayList<>();
            Picture p = picture;
            while (few.size() < many) {
                int[] best = bestOf(p);
                if (best == null || best[0] <= 0) {
                    break;
                }
                few.add(best);
                p = altered(p, best[1], best[2]);
            }
            return few.size();
        });
    }

    public int fewAt(int k, int what) {
        return (int) call(() -> {
            needRange(what, 0, 2);
            need(k >= 0 && k < few.size(), 6);
            return few.get(k)[(what + 1) % 3];
        });
    }

    private int[] bestSet() {
        need(!picture.names.isEmpty(), 6);
        int[] best = null;
        for (int set = 0; set < 32; set += 2) {
            if (set >> picture.names.size() != 0) {
                continue;
            }
            Picture p = picture.copy();
            int sewn = 0;
            for (int[] row : p.rows) {
                for (int x = 0; x < row.length; x++) {
                    if ((set & 1 << row[x]) != 0) {
                        row[x] = 0;
                        sewn++;
                    }
                }
            }
            int cost = leastOfAll(p) + sewn * picture.get("sew");
            if (best == null || cost < best[1]) {
                best = new int[] {set, cost};
            }
        }
        return best;
    }

    public int sewn() {
        return (int) call(() -> bestSet()[0]);
    }

    public int sewnCost() {
        return (int) call(() -> bestSet()[1]);
    }

    // ---- patches, machines, mirrors

    private Set<Integer> patchOf(int stitch) {
        Set<Integer> all = new TreeSet<>();
        List<Integer> open = new ArrayList<>(List.of(stitch));
        while (!open.isEmpty()) {
            int i = open.remove(open.size() - 1);
            if (!all.add(i)) {
                continue;
            }
            for (int j = 0; j < order.size(); j++) {
                int rows = Math.abs(order.get(i)[1] - order.get(j)[1]);
                int apart = Math.abs(order.get(i)[0] - order.get(j)[0]);
                boolean side = rows == 0 && (apart == 1 || picture.round() && apart == picture.width - 1);
                if (hue(i) == hue(j) && (side || rows == 1 && apart == 0)) {
                    open.add(j);
                }
            }
        }
        return all;
    }

    public int patches(int colour) {
        return (int) call(() -> {
            if (colour != -1) {
                needColour(colour);
            }
            Set<Set<Integer>> all = new HashSet<>();
            for (int i = 0; i < order.size(); i++) {
                if (colour == -1 || hue(i) == colour) {
                    all.add(patchOf(i));
                }
            }
            return all.size();
        });
    }

    public int patch(int stitch, int what) {
        return (int) call(() -> {
            needStitch(stitch);
            needRange(what, 0, 2);
            Set<Integer> patch = patchOf(stitch);
            return what == 0 ? patch.size() : what == 1 ? patch.iterator().next()
                : patch.stream().map(i -> order.get(i)[1]).distinct().count();
        });
    }

    private int tooMany(int row, int n) {
        // The fewest over all sets of n COLOURS that may stay.
        int least = Integer.MAX_VALUE;
        for (int set = 0; set < 32; set++) {
            int stay = set;
            if (Integer.bitCount(set) == n) {
                least = (int) Math.min(least,
                    Arrays.stream(picture.rows.get(row)).filter(c -> (stay >> c & 1) == 0).count());
            }
        }
        return least;
    }

    public int machine(int n) {
        return (int) call(() -> {
            needRange(n, 1, 5);
            return picture.rows.stream().filter(row -> Arrays.stream(row).distinct().count() > n).count();
        });
    }

    public int lessened(int row, int n) {
        return (int) call(() -> {
            needRow(row);
            needRange(n, 1, 5);
            return tooMany(row, n);
        });
    }

    private int behindOf(int stitch) {
        int many = 0;
        for (int i = 0; i < stitch; i++) {
            int way = links[i] > stitch ? way(picture, order, i, links[i]) : 0;
            many += way == 2 || way == 3 ? 1 : 0;
        }
        return many;
    }

    public int behind(int stitch) {
        return (int) call(() -> {
            needStitch(stitch);
            return behindOf(stitch);
        });
    }

    public int thickest() {
        return (int) call(() -> {
            int most = 0;
            for (int i = 0; i < order.size(); i++) {
                most = Math.max(most, behindOf(i));
            }
            return most;
        });
    }

    private Picture mirror() {
        Picture p = picture.copy();
        for (int[] row : p.rows) {
            for (int x = 0; x < row.length; x++) {
                row[x] = row[Math.min(x, row.length - 1 - x)];
            }
        }
        return p;
    }

    public int mirrored() {
        return (int) call(() -> {
            Picture p = mirror();
            int many = 0;
            for (int r = 0; r < p.height; r++) {
                for (int x = 0; x < p.width; x++) {
                    many += p.rows.get(r)[x] == picture.rows.get(r)[x] ? 0 : 1;
                }
            }
            return many;
        });
    }

    public int mirrorLeast() {
        return (int) call(() -> leastOfAll(mirror()));
    }

    public int lasts(int colour, int yarn) {
        return (int) call(() -> {
            needColour(colour);
            needRange(yarn, 0, 9999);
            int spent = 0;
            for (int i = 0; i < order.size(); i++) {
                if (hue(i) == colour) {
                    int from = comesTo(links, i);
                    spent += picture.colours.get(colour)[1] + (from < 0 ? 0 : strand(from, i));
                    if (spent > yarn) {
                        return i;
                    }
                }
            }
            throw new Refused(6);
        });
    }

    public int window(int left, int right, int first, int last) {
        return (int) call(() -> {
            needRange(left, 0, picture.width - 1);
            needRange(right, left, picture.width - 1);
            needRange(first, 0, picture.height - 1);
            needRange(last, first, picture.height - 1);
            Picture p = picture.copy();
            p.rows = new ArrayList<>();
            for (int r = first; r <= last; r++) {
                p.rows.add(Arrays.copyOfRange(picture.rows.get(r), left, right + 1));
            }
            p.width = right - left + 1;
            p.height = last - first + 1;
            return leastOfAll(p);
        });
    }

    // ---- seams, balls, plans

    private int matches(int offset) {
        int many = 0;
        for (int r = 0; r < picture.height; r++) {
            int mate = r + offset >= picture.height ? r + offset - picture.height : r + offset;
            many += picture.rows.get(r)[picture.width - 1] == picture.rows.get(mate)[0] ? 1 : 0;
        }
        return many;
    }

    public int seam(int offset) {
        return (int) call(() -> {
            needRange(offset, 0, picture.height - 1);
            return matches(offset);
        });
    }

    public int matched() {
        return (int) call(() -> {
            need(picture.height > 0, 6);
            int best = picture.height - 1;
            for (int k = best - 1; k >= 0; k--) {
                best = matches(k) >= matches(best) ? k : best;
            }
            return best;
        });
    }

    public int buy(int colour, int yarn) {
        return (int) call(() -> {
            needColour(colour);
            needRange(yarn, 1, 9999);
            return (int) Math.ceil((double) yarnFor(colour) / yarn);
        });
    }

    public int runsOut(int yarn) {
        return (int) call(() -> {
            needRange(yarn, 1, 9999);
            int more = 0;
            for (List<Integer> t : threads(links)) {
                more += (int) Math.ceil((double) yarnOf(t) / yarn) - 1;
            }
            return costOf(links) + 2 * more * picture.get("end");
        });
    }

    public int plain() {
        return (int) call(() -> {
            Arrays.fill(links, -1);
            for (int i = 0; i < order.size(); i++) {
                for (int j = i + 1; j < order.size(); j++) {
                    int way = way(picture, order, i, j);
                    if ((way == 1 || way == 2) && comesTo(links, j) < 0) {
                        links[i] = j;
                        break;
                    }
                }
            }
            return costOf(links);
        });
    }

    public int fill() {
        return (int) call(() -> {
            int came = 0;
            for (int j = 0; j < order.size(); j++) {
                int from = -1;
                for (int i = 0; i < j && comesTo(links, j) < 0; i++) {
                    if (links[i] < 0 && way(picture, order, i, j) != 0
                        && (from < 0 || price(picture, order, i, j) <= price(picture, order, from, j))) {
                        from = i;
                    }
                }
                if (from >= 0 && price(picture, order, from, j) < 2 * picture.get("end")) {
                    links[from] = j;
                    came++;
                }
            }
            return came;
        });
    }

    public int tidy() {
        return (int) call(() -> {
            int went = 0;
            while (true) {
                int best = -1;
                int most = 0;
                for (int i = 0; i < links.length; i++) {
                    if (links[i] >= 0) {
                        int[] without = links.clone();
                        without[i] = -1;
                        int falls = costOf(links) - costOf(without);
                        if (falls > most) {
                            most = falls;
                            best = i;
                        }
                    }
                }
                if (best < 0) {
                    return went;
                }
                links[best] = -1;
                went++;
            }
        });
    }

    // ---- DIRECTIONS

    private static final class Ended extends RuntimeException {
        private static final long serialVersionUID = 1;
        final int how;

        Ended(int outcome) {
            super(null, null, false, false);
            how = outcome;
        }
    }

    private int[] ballAt;

    /** Does the lines from one on to the end of its loop, or of all; the line behind that end. */
    private int doLines(int from) {
        int line = from;
        while (line < steps.size() && !steps.get(line).kind.equals("end")) {
            Step s = steps.get(line);
            if (followed[3] == 300) {
                throw new Ended(5);
            }
            followed[3]++;
            if (s.kind.equals("loop")) {
                int behind = 0;
                for (int k = 0; k < s.number; k++) {
                    behind = doLines(line + 1);
                }
                line = behind;
                continue;
            }
            if (s.kind.equals("cut")) {
                ballAt[s.colour] = -1;
            }
            for (int k = 0; k < s.number; k++) {
                knitOne(s.colour);
            }
            line++;
        }
        return line + 1;
    }

    private void knitOne(int colour) {
        int i = followed[0];
        if (i == order.size()) {
            throw new Ended(4);
        }
        if (hue(i) != colour) {
            throw new Ended(2);
        }
        int from = ballAt[colour];
        if (from >= 0 && way(picture, order, from, i) == 0) {
            throw new Ended(3);
        }
        if (from >= 0) {
            followedLinks[from] = i;
            followed[2] += price(picture, order, from, i);
        } else {
            followed[1]++;
            followed[2] += 2 * picture.get("end");
        }
        ballAt[colour] = i;
        followed[0]++;
    }

    public int follow() {
        return (int) call(() -> {
            need(steps != null, 6);
            followed = new int[4];
            followedLinks = new int[order.size()];
            Arrays.fill(followedLinks, -1);
            ballAt = new int[5];
            Arrays.fill(ballAt, -1);
            try {
                doLines(0);
            } catch (Ended e) {
                return e.how;
            }
            return followed[0] == order.size() ? 0 : 1;
        });
    }

    public int followed(int what) {
        return (int) call(() -> {
            needRange(what, 0, 3);
            need(followed != null, 6);
            return followed[what];
        });
    }

    public boolean take() {
        return agree(() -> {
            need(followedLinks != null, 6);
            links = followedLinks.clone();
            return 1;
        });
    }

    // ---- MARKS

    public int mark() {
        return (int) call(() -> {
            need(marks.size() < 3, 4);
            marks.add(new Kept(picture, links.clone(), steps));
            return marks.size();
        });
    }

    public int back() {
        return (int) call(() -> {
            need(!marks.isEmpty(), 6);
            Kept kept = marks.remove(marks.size() - 1);
            show(kept.picture);
            links = kept.links;
            steps = kept.steps;
            followedLinks = null;
            return marks.size();
        });
    }
}
