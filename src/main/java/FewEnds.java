import java.util.Arrays;

/**
 * A jersey with a picture in it: a chart as a text, plans of threads over it and what they cost, the
 * least that they could cost, and directions by which it is knitted. shared/DOC.md says what each
 * call answers; the words in capitals are its words.
 */
public final class FewEnds {
    public static final int NONE = -1;

    // STATUS of a call.
    private static final int FINE = 0;
    private static final int BAD_NUMBER = 1;
    private static final int TRAY_MISSING = 2;
    private static final int NO_PLACE = 3;
    private static final int ONE_TOO_MANY = 4;
    private static final int BAD_IN_TRAY = 5;
    private static final int NONE_SUCH = 6;
    private static final int IMPOSSIBLE = 7;
    private static final int UNLIKE_SORTS = 8;
    private static final int FAULTY = 9;

    // FAULTS of a TEXT.
    private static final int NO_TOKEN = 1;
    private static final int MISPLACED = 2;
    private static final int WRONG_NAME = 3;
    private static final int WRONG_NUMBER = 4;
    private static final int TOLD_ALREADY = 5;
    private static final int TOO_MANY_TOLD = 6;
    private static final int TOO_FEW_IN_ROW = 7;
    private static final int TOO_DEEP = 7;
    private static final int TOO_FEW_ROWS = 8;

    // What a CHART tells by a number, as told() asks for it.
    private static final int WIDTH = 0;
    private static final int HEIGHT = 1;
    private static final int COLOURS = 2;
    private static final int END = 3;
    private static final int CARRY = 4;
    private static final int CARRY_COST = 5;
    private static final int TWIST = 6;
    private static final int WAIT = 7;
    private static final int WAIT_COST = 8;
    private static final int BALLS = 9;
    private static final int BALLS_COST = 10;
    private static final int STRAND = 11;
    private static final int SEW = 12;
    private static final int ALTER = 13;
    private static final int ROUND = 14;
    private static final int SETTINGS = 15;

    // How a THREAD goes on from a STITCH to another one.
    private static final int NO_WAY = 0;
    private static final int NEXT = 1;
    private static final int CARRIED = 2;
    private static final int TWISTED = 3;
    private static final int WAITS = 4;

    // How DIRECTIONS that are FOLLOWED end.
    private static final int WELL = 0;
    private static final int SHORT = 1;
    private static final int WRONG = 2;
    private static final int BROKEN = 3;
    private static final int LONG = 4;
    private static final int LEFT = 5;

    // The document's limits.
    private static final int MOST_TRAYS = 4;
    private static final int MOST_IN_TRAY = 60;
    private static final int MOST_COUPLES = 30;
    private static final int MOST_ON_TAPE = 800;
    private static final int MOST_IN_FEED = 20;
    private static final int MOST_WIDTH = 8;
    private static final int MOST_HEIGHT = 6;
    private static final int MOST_STITCHES = 48;
    private static final int MOST_COLOURS = 5;
    private static final int LONGEST_NAME = 8;
    private static final int LONGEST_NUMBER = 4;
    private static final int MOST_IN_DIRECTIONS = 300;
    private static final int MOST_STEPS = 40;
    private static final int MOST_LOOPS = 3;
    private static final int MOST_STEPS_DONE = 300;
    private static final int MOST_YARN = 9999;
    private static final int MOST_FEW = 4;
    private static final int MOST_MARKS = 3;

    private int status;
    private long topPart;
    private long bottomPart;
    private final Tray[] trays = new Tray[MOST_TRAYS];
    private final Tape tape = new Tape();
    private final Chart chart = new Chart();
    private final Plan plan = new Plan();
    private final Directions directions = new Directions();
    private final Mark[] marks = new Mark[MOST_MARKS];
    private int marked;
    private final ChartReader chartReader = new ChartReader(tape);
    private final DirectionsReader directionsReader = new DirectionsReader(tape);
    private final Pairing pairing = new Pairing();
    private final Alterations alterations = new Alterations(pairing);
    private final Follower follower = new Follower();
    // Rows that calls use and leave: another CHART, another PLAN, numbers by STITCH, numbers by COLOUR.
    private final Chart trial = new Chart();
    private final Plan draft = new Plan();
    private final int[] groups = new int[MOST_STITCHES];
    private final int[] counts = new int[MOST_COLOURS];

    public FewEnds() {
        bottomPart = 1;
        for (int k = 0; k < MOST_TRAYS; k++) {
            trays[k] = new Tray();
        }
        for (int k = 0; k < MOST_MARKS; k++) {
            marks[k] = new Mark();
        }
    }

    public int status() {
        return status;
    }

    public long top() {
        return topPart;
    }

    public long bottom() {
        return bottomPart;
    }

    // ---- TRAYS

    public boolean tray(int tray, int sort, int many) {
        Tray laid = trayAt(tray);
        if (laid == null || sort < 0 || sort > Tray.BITS_64 || many < 0 || many > MOST_IN_TRAY) {
            return refuse(BAD_NUMBER);
        }
        laid.lay(sort, many);
        return agree();
    }

    public boolean write(int tray, int place, long v) {
        Tray written = trayAt(tray);
        if (written == null) {
            return refuse(BAD_NUMBER);
        }
        if (written.isMissing()) {
            return refuse(TRAY_MISSING);
        }
        if (!written.has(place, 1)) {
            return refuse(NO_PLACE);
        }
        written.put(place, v);
        return agree();
    }

    public long read(int tray, int place) {
        Tray asked = trayAt(tray);
        if (asked == null) {
            return none(BAD_NUMBER);
        }
        if (asked.isMissing()) {
            return none(TRAY_MISSING);
        }
        if (!asked.has(place, 1)) {
            return none(NO_PLACE);
        }
        status = FINE;
        return asked.numberAt(place);
    }

    public boolean pour(int from, int place, int to, int at, int many) {
        Tray source = trayAt(from);
        Tray goal = trayAt(to);
        if (source == null || goal == null || place < 0 || at < 0 || many < 0) {
            return refuse(BAD_NUMBER);
        }
        if (source.isMissing() || goal.isMissing()) {
            return refuse(TRAY_MISSING);
        }
        if (source.sort != goal.sort) {
            return refuse(UNLIKE_SORTS);
        }
        if (!source.has(place, many) || !goal.has(at, many)) {
            return refuse(NO_PLACE);
        }
        System.arraycopy(source.numbers, place, goal.numbers, at, many);
        return agree();
    }

    // ---- the CHART

    public int feed(int a, int b, int c, int d, int e) {
        if (tape.fed > MOST_ON_TAPE - MOST_IN_FEED) {
            return NONE;
        }
        tape.put(a);
        tape.put(b);
        tape.put(c);
        tape.put(d);
        tape.put(e);
        return tape.fed;
    }

    public int chart(int n) {
        if (n < 0 || n > tape.fed) {
            return none(BAD_NUMBER);
        }
        if (!chartReader.reads(n)) {
            return none(FAULTY);
        }
        chart.copyFrom(chartReader.draft);
        plan.empty();
        directions.forget();
        forgetWhatWasReckoned();
        return answer(chart.stitches);
    }

    public int directions(int n) {
        if (n < 0 || n > tape.fed || n > MOST_IN_DIRECTIONS) {
            return none(BAD_NUMBER);
        }
        if (!directionsReader.reads(n, chart)) {
            return none(FAULTY);
        }
        directions.copyFrom(directionsReader.draft);
        return answer(directions.steps);
    }

    public int fault(int what) {
        if (what == 0) {
            return tape.fault;
        }
        return what == 1 ? tape.faultPlace : NONE;
    }

    public int told(int what) {
        if (what < 0 || what >= SETTINGS) {
            return none(BAD_NUMBER);
        }
        return answer(chart.settings[what]);
    }

    public int colour(int colour, int what) {
        if (!chart.hasColour(colour) || what < 0 || what > 2) {
            return none(BAD_NUMBER);
        }
        if (what == 0) {
            return answer(chart.shows[colour]);
        }
        return answer(what == 1 ? chart.yarns[colour] : chart.stitchesOf(colour));
    }

    public int stitch(int stitch, int what) {
        if (!chart.hasStitch(stitch) || what < 0 || what > 2) {
            return none(BAD_NUMBER);
        }
        if (what == 0) {
            return answer(chart.hues[stitch]);
        }
        return answer(what == 1 ? chart.places[stitch] : chart.rows[stitch]);
    }

    public int at(int x, int row) {
        if (x < 0 || x >= chart.settings[WIDTH] || !chart.hasRow(row)) {
            return none(BAD_NUMBER);
        }
        return answer(chart.stitchAt(x, row));
    }

    public int lawful(int i, int j) {
        if (!chart.hasCouple(i, j)) {
            return none(BAD_NUMBER);
        }
        return answer(chart.wayBetween(i, j));
    }

    public int cost(int i, int j) {
        if (!chart.hasCouple(i, j)) {
            return none(BAD_NUMBER);
        }
        if (chart.wayBetween(i, j) == NO_WAY) {
            return none(IMPOSSIBLE);
        }
        return answer(chart.priceOf(i, j));
    }

    public int yarnOf(int i, int j) {
        if (!chart.hasCouple(i, j)) {
            return none(BAD_NUMBER);
        }
        if (chart.wayBetween(i, j) == NO_WAY) {
            return none(IMPOSSIBLE);
        }
        return answer(chart.strandOf(i, j));
    }

    // ---- the PLAN

    public boolean link(int i, int j) {
        if (!chart.hasCouple(i, j)) {
            return refuse(BAD_NUMBER);
        }
        if (chart.wayBetween(i, j) == NO_WAY || !plan.isOpen(i, j)) {
            return refuse(IMPOSSIBLE);
        }
        plan.join(i, j);
        return agree();
    }

    public boolean unlink(int i) {
        if (!chart.hasStitch(i)) {
            return refuse(BAD_NUMBER);
        }
        if (plan.later[i] == NONE) {
            return refuse(NONE_SUCH);
        }
        plan.part(i);
        return agree();
    }

    public boolean clear() {
        plan.empty();
        return agree();
    }

    public boolean plan(int tray, int many) {
        Tray asked = trayAt(tray);
        if (asked == null || many < 0 || many > MOST_COUPLES) {
            return refuse(BAD_NUMBER);
        }
        if (asked.isMissing()) {
            return refuse(TRAY_MISSING);
        }
        if (!asked.has(0, 2 * many)) {
            return refuse(NO_PLACE);
        }
        if (!holdsCouples(asked, many)) {
            return refuse(BAD_IN_TRAY);
        }
        if (!canBeLinked(asked, many)) {
            return refuse(IMPOSSIBLE);
        }
        plan.copyFrom(draft);
        return agree();
    }

    public int goes(int stitch) {
        if (!chart.hasStitch(stitch)) {
            return none(BAD_NUMBER);
        }
        return plan.later[stitch] == NONE ? none(NONE_SUCH) : answer(plan.later[stitch]);
    }

    public int comes(int stitch) {
        if (!chart.hasStitch(stitch)) {
            return none(BAD_NUMBER);
        }
        return plan.earlier[stitch] == NONE ? none(NONE_SUCH) : answer(plan.earlier[stitch]);
    }

    public int threads(int colour) {
        if (colour != NONE && !chart.hasColour(colour)) {
            return none(BAD_NUMBER);
        }
        return answer(plan.threadsOf(chart, colour));
    }

    public int thread(int thread, int what) {
        int first = thread < 0 ? NONE : plan.firstOf(chart, thread);
        if (first == NONE || what < 0 || what > 4) {
            return none(BAD_NUMBER);
        }
        switch (what) {
            case 0:
                return answer(chart.hues[first]);
            case 1:
                return answer(first);
            case 2:
                return answer(plan.lastFrom(first));
            case 3:
                return answer(plan.stitchesFrom(first));
            default:
                return answer(plan.yarnFrom(chart, first));
        }
    }

    public int hangs(int row) {
        if (!chart.hasRow(row)) {
            return none(BAD_NUMBER);
        }
        return answer(plan.hangingIn(chart, row));
    }

    public int tangle(int row) {
        if (!chart.hasRow(row)) {
            return none(BAD_NUMBER);
        }
        return answer(plan.tangledIn(chart, row));
    }

    public int planCost() {
        return answer(plan.costOn(chart));
    }

    public int longest() {
        int most = 0;
        for (int i = 0; i < chart.stitches; i++) {
            int j = plan.later[i];
            if (chart.isBehindWork(i, j)) {
                most = Math.max(most, j - i - 1);
            }
        }
        return answer(most);
    }

    public int yarn(int colour) {
        if (!chart.hasColour(colour)) {
            return none(BAD_NUMBER);
        }
        return answer(plan.yarnFor(chart, colour));
    }

    // ---- the least

    public int least(int colour) {
        if (colour != NONE && !chart.hasColour(colour)) {
            return none(BAD_NUMBER);
        }
        return answer(colour == NONE ? pairing.leastOfAll(chart) : pairing.leastOf(chart, colour));
    }

    public int fewest(int colour) {
        if (colour != NONE && !chart.hasColour(colour)) {
            return none(BAD_NUMBER);
        }
        if (colour != NONE) {
            return answer(pairing.fewestOf(chart, colour));
        }
        int sum = 0;
        for (int k = 0; k < chart.settings[COLOURS]; k++) {
            sum += pairing.fewestOf(chart, k);
        }
        return answer(sum);
    }

    public int gap() {
        return answer(plan.costOn(chart) - pairing.leastOfAll(chart));
    }

    public boolean worth() {
        int whole = plan.costOn(chart);
        if (whole <= 0) {
            return refuse(NONE_SUCH);
        }
        int part = pairing.leastOfAll(chart);
        int divisor = commonDivisor(whole, part);
        if (divisor > 0) {
            topPart = part / divisor;
            bottomPart = whole / divisor;
        }
        return agree();
    }

    public int rowAlone(int row) {
        if (!chart.hasRow(row)) {
            return none(BAD_NUMBER);
        }
        return answer(pairing.leastOfRow(chart, plan, row));
    }

    public int other() {
        trial.copyFrom(chart);
        trial.settings[ROUND] = 1 - chart.settings[ROUND];
        trial.arrange();
        return answer(pairing.leastOfAll(trial));
    }

    public int saves(int stitch, int colour) {
        if (!chart.hasStitch(stitch) || !chart.hasColour(colour) || chart.hues[stitch] == colour) {
            return none(BAD_NUMBER);
        }
        trial.copyFrom(chart);
        trial.recolour(stitch, colour);
        return answer(pairing.leastOfAll(chart) - pairing.leastOfAll(trial) - chart.settings[ALTER]);
    }

    public int best(int what) {
        if (what < 0 || what > 2) {
            return none(BAD_NUMBER);
        }
        if (!chart.canBeAltered()) {
            return none(NONE_SUCH);
        }
        alterations.find(chart, 1);
        if (what == 0) {
            return answer(alterations.savings[0]);
        }
        return answer(what == 1 ? alterations.stitches[0] : alterations.colours[0]);
    }

    public int few(int many) {
        if (many < 1 || many > MOST_FEW) {
            return none(BAD_NUMBER);
        }
        if (chart.canBeAltered()) {
            alterations.find(chart, many);
        }
        alterations.tell(many);
        return answer(alterations.toldOnes);
    }

    public int fewAt(int k, int what) {
        if (what < 0 || what > 2) {
            return none(BAD_NUMBER);
        }
        if (k < 0 || k >= alterations.toldOnes) {
            return none(NONE_SUCH);
        }
        return answer(alterations.toldAt(k, what));
    }

    public int sewn() {
        if (chart.settings[COLOURS] == 0) {
            return none(NONE_SUCH);
        }
        return answer(bestSet());
    }

    public int sewnCost() {
        if (chart.settings[COLOURS] == 0) {
            return none(NONE_SUCH);
        }
        return answer(costOfSet(bestSet()));
    }

    // ---- patches, machines, mirrors

    public int patches(int colour) {
        if (colour != NONE && !chart.hasColour(colour)) {
            return none(BAD_NUMBER);
        }
        chart.group(groups);
        int many = 0;
        for (int i = 0; i < chart.stitches; i++) {
            if (groups[i] == i && (colour == NONE || chart.hues[i] == colour)) {
                many++;
            }
        }
        return answer(many);
    }

    public int patch(int stitch, int what) {
        if (!chart.hasStitch(stitch) || what < 0 || what > 2) {
            return none(BAD_NUMBER);
        }
        chart.group(groups);
        if (what == 1) {
            return answer(groups[stitch]);
        }
        return answer(what == 0 ? stitchesInGroup(groups[stitch]) : rowsOfGroup(groups[stitch]));
    }

    public int machine(int n) {
        if (n < 1 || n > MOST_COLOURS) {
            return none(BAD_NUMBER);
        }
        int many = 0;
        for (int row = 0; row < chart.settings[HEIGHT]; row++) {
            if (stitchesTooMany(row, n) > 0) {
                many++;
            }
        }
        return answer(many);
    }

    public int lessened(int row, int n) {
        if (!chart.hasRow(row) || n < 1 || n > MOST_COLOURS) {
            return none(BAD_NUMBER);
        }
        return answer(stitchesTooMany(row, n));
    }

    public int behind(int stitch) {
        if (!chart.hasStitch(stitch)) {
            return none(BAD_NUMBER);
        }
        return answer(plan.linksBehind(chart, stitch));
    }

    public int thickest() {
        int most = 0;
        for (int i = 0; i < chart.stitches; i++) {
            most = Math.max(most, plan.linksBehind(chart, i));
        }
        return answer(most);
    }

    public int mirrored() {
        trial.copyFrom(chart);
        return answer(trial.mirror());
    }

    public int mirrorLeast() {
        trial.copyFrom(chart);
        trial.mirror();
        return answer(pairing.leastOfAll(trial));
    }

    public int lasts(int colour, int yarn) {
        if (!chart.hasColour(colour) || yarn < 0 || yarn > MOST_YARN) {
            return none(BAD_NUMBER);
        }
        int rest = yarn;
        for (int i = 0; i < chart.stitches; i++) {
            if (chart.hues[i] == colour) {
                rest -= chart.yarnAt(i) + chart.strandOf(plan.earlier[i], i);
                if (rest < 0) {
                    return answer(i);
                }
            }
        }
        return none(NONE_SUCH);
    }

    public int window(int left, int right, int first, int last) {
        if (left < 0 || right < left || right >= chart.settings[WIDTH]) {
            return none(BAD_NUMBER);
        }
        if (first < 0 || last < first || last >= chart.settings[HEIGHT]) {
            return none(BAD_NUMBER);
        }
        trial.copyFrom(chart);
        trial.cutOut(left, right, first, last);
        return answer(pairing.leastOfAll(trial));
    }

    // ---- seams, balls, plans

    public int seam(int offset) {
        if (!chart.hasRow(offset)) {
            return none(BAD_NUMBER);
        }
        return answer(chart.matchesBy(offset));
    }

    public int matched() {
        if (chart.settings[HEIGHT] == 0) {
            return none(NONE_SUCH);
        }
        int offset = 0;
        for (int k = 1; k < chart.settings[HEIGHT]; k++) {
            if (chart.matchesBy(k) > chart.matchesBy(offset)) {
                offset = k;
            }
        }
        return answer(offset);
    }

    public int buy(int colour, int yarn) {
        if (!chart.hasColour(colour) || yarn < 1 || yarn > MOST_YARN) {
            return none(BAD_NUMBER);
        }
        return answer(balls(plan.yarnFor(chart, colour), yarn));
    }

    public int runsOut(int yarn) {
        if (yarn < 1 || yarn > MOST_YARN) {
            return none(BAD_NUMBER);
        }
        int more = 0;
        for (int i = 0; i < chart.stitches; i++) {
            if (plan.earlier[i] == NONE) {
                more += balls(plan.yarnFrom(chart, i), yarn) - 1;
            }
        }
        return answer(plan.costOn(chart) + more * 2 * chart.settings[END]);
    }

    public int plain() {
        plan.makePlain(chart);
        return answer(plan.costOn(chart));
    }

    public int fill() {
        return answer(plan.fillUp(chart));
    }

    public int tidy() {
        return answer(plan.tidyUp(chart));
    }

    // ---- DIRECTIONS

    public int follow() {
        if (!directions.there) {
            return none(NONE_SUCH);
        }
        return answer(follower.run(chart, directions));
    }

    public int followed(int what) {
        if (what < 0 || what > 3) {
            return none(BAD_NUMBER);
        }
        if (!follower.hasRun) {
            return none(NONE_SUCH);
        }
        switch (what) {
            case 0:
                return answer(follower.knitted);
            case 1:
                return answer(follower.balls);
            case 2:
                return answer(follower.price);
            default:
                return answer(follower.steps);
        }
    }

    public boolean take() {
        if (!follower.isFresh) {
            return refuse(NONE_SUCH);
        }
        plan.copyFrom(follower.links);
        return agree();
    }

    // ---- MARKS

    public int mark() {
        Mark more = markAt(marked);
        if (more == null) {
            return none(ONE_TOO_MANY);
        }
        more.chart.copyFrom(chart);
        more.plan.copyFrom(plan);
        more.directions.copyFrom(directions);
        marked++;
        return answer(marked);
    }

    public int back() {
        Mark latest = markAt(marked - 1);
        if (latest == null) {
            return none(NONE_SUCH);
        }
        chart.copyFrom(latest.chart);
        plan.copyFrom(latest.plan);
        directions.copyFrom(latest.directions);
        forgetWhatWasReckoned();
        marked--;
        return answer(marked);
    }

    // ---- what the calls share

    private int answer(int number) {
        status = FINE;
        return number;
    }

    private int none(int why) {
        status = why;
        return NONE;
    }

    private boolean agree() {
        status = FINE;
        return true;
    }

    private boolean refuse(int why) {
        status = why;
        return false;
    }

    private Tray trayAt(int tray) {
        return tray < 0 || tray >= MOST_TRAYS ? null : trays[tray];
    }

    private Mark markAt(int mark) {
        return mark < 0 || mark >= MOST_MARKS ? null : marks[mark];
    }

    /** What was reckoned of the CHART ahead does not hold for another one. */
    private void forgetWhatWasReckoned() {
        alterations.found = 0;
        follower.isFresh = false;
    }

    private boolean holdsCouples(Tray asked, int many) {
        for (int k = 0; k < many; k++) {
            long i = asked.numberAt(2 * k);
            long j = asked.numberAt(2 * k + 1);
            if (i < 0 || j <= i || j >= chart.stitches) {
                return false;
            }
        }
        return true;
    }

    /** Makes the PLAN by a TRAY in the draft. */
    private boolean canBeLinked(Tray asked, int many) {
        draft.empty();
        for (int k = 0; k < many; k++) {
            int i = (int) asked.numberAt(2 * k);
            int j = (int) asked.numberAt(2 * k + 1);
            if (chart.wayBetween(i, j) == NO_WAY || !draft.isOpen(i, j)) {
                return false;
            }
            draft.join(i, j);
        }
        return true;
    }

    private static int commonDivisor(int one, int another) {
        int high = one;
        int low = another;
        for (int guard = 0; guard < 1000 && low > 0; guard++) {
            int rest = high % low;
            high = low;
            low = rest;
        }
        return high;
    }

    private static int balls(int need, int yarn) {
        return yarn > 0 ? (need + yarn - 1) / yarn : 0;
    }

    private int bestSet() {
        int best = 0;
        int bestCost = costOfSet(0);
        // COLOUR 0 is in no set, so the sets are the even numbers.
        for (int set = 2; set < 1 << chart.settings[COLOURS]; set += 2) {
            int cost = costOfSet(set);
            if (cost < bestCost) {
                best = set;
                bestCost = cost;
            }
        }
        return best;
    }

    private int costOfSet(int set) {
        trial.copyFrom(chart);
        int sewnOn = 0;
        for (int i = 0; i < chart.stitches; i++) {
            if ((set >> chart.hues[i] & 1) == 1) {
                trial.recolour(i, 0);
                sewnOn++;
            }
        }
        return pairing.leastOfAll(trial) + sewnOn * chart.settings[SEW];
    }

    private int stitchesInGroup(int group) {
        int many = 0;
        for (int i = 0; i < chart.stitches; i++) {
            if (groups[i] == group) {
                many++;
            }
        }
        return many;
    }

    private int rowsOfGroup(int group) {
        int many = 0;
        int latest = NONE;
        for (int i = 0; i < chart.stitches; i++) {
            if (groups[i] == group && chart.rows[i] != latest) {
                latest = chart.rows[i];
                many++;
            }
        }
        return many;
    }

    /** How many STITCHES of a ROW are of none of its n most frequent COLOURS. */
    private int stitchesTooMany(int row, int n) {
        Arrays.fill(counts, 0);
        int rest = 0;
        for (int i = 0; i < chart.stitches; i++) {
            if (chart.rows[i] == row && chart.hasColour(chart.hues[i])) {
                counts[chart.hues[i]]++;
                rest++;
            }
        }
        for (int k = 0; k < n; k++) {
            int most = 0;
            for (int colour = 1; colour < MOST_COLOURS; colour++) {
                if (counts[colour] > counts[most]) {
                    most = colour;
                }
            }
            rest -= counts[most];
            counts[most] = 0;
        }
        return rest;
    }

    /** A TRAY: missing, or a row of numbers of one sort. */
    static final class Tray {
        static final int BITS_8 = 0;
        static final int BITS_16 = 1;
        static final int BITS_32 = 2;
        static final int BITS_64 = 3;

        final long[] numbers = new long[MOST_IN_TRAY];
        int sort;
        int many = NONE;

        boolean isMissing() {
            return many == NONE;
        }

        void lay(int newSort, int newMany) {
            Arrays.fill(numbers, 0);
            sort = newSort;
            many = newMany;
        }

        /** Whether it has so many places from one on; written so that no sum can overflow. */
        boolean has(int place, int some) {
            return place >= 0 && some >= 0 && some <= many && place <= many - some;
        }

        void put(int place, long v) {
            if (has(place, 1)) {
                numbers[place] = cut(v);
            }
        }

        long numberAt(int place) {
            return has(place, 1) ? numbers[place] : NONE;
        }

        private long cut(long v) {
            switch (sort) {
                case BITS_8:
                    return (byte) v;
                case BITS_16:
                    return (short) v;
                case BITS_32:
                    return (int) v;
                default:
                    return v;
            }
        }
    }

    /** A CHART: what it tells by numbers, its COLOURS, and the COLOUR of each STITCH. */
    static final class Chart {
        final int[] settings = new int[SETTINGS];
        final long[] names = new long[MOST_COLOURS];
        final int[] shows = new int[MOST_COLOURS];
        final int[] yarns = new int[MOST_COLOURS];
        // COLOURS ROW by ROW, each from the left, as the text tells them.
        final int[] cells = new int[MOST_STITCHES];
        // COLOUR, place from the left and ROW of each STITCH, as they are knitted.
        final int[] hues = new int[MOST_STITCHES];
        final int[] places = new int[MOST_STITCHES];
        final int[] rows = new int[MOST_STITCHES];
        int stitches;

        Chart() {
            empty();
        }

        void empty() {
            stitches = 0;
            Arrays.fill(settings, 0);
            settings[END] = 10;
            settings[CARRY] = 5;
            settings[WAIT] = 3;
            settings[WAIT_COST] = 1;
            settings[BALLS] = 48;
            settings[STRAND] = 1;
            settings[SEW] = 5;
            settings[ALTER] = 5;
        }

        void copyFrom(Chart model) {
            System.arraycopy(model.settings, 0, settings, 0, SETTINGS);
            System.arraycopy(model.names, 0, names, 0, MOST_COLOURS);
            System.arraycopy(model.shows, 0, shows, 0, MOST_COLOURS);
            System.arraycopy(model.yarns, 0, yarns, 0, MOST_COLOURS);
            System.arraycopy(model.cells, 0, cells, 0, MOST_STITCHES);
            System.arraycopy(model.hues, 0, hues, 0, MOST_STITCHES);
            System.arraycopy(model.places, 0, places, 0, MOST_STITCHES);
            System.arraycopy(model.rows, 0, rows, 0, MOST_STITCHES);
            stitches = model.stitches;
        }

        boolean hasStitch(int i) {
            return i >= 0 && i < stitches;
        }

        boolean hasCouple(int i, int j) {
            return i >= 0 && i < j && j < stitches;
        }

        boolean hasRow(int row) {
            return row >= 0 && row < settings[HEIGHT];
        }

        boolean hasColour(int colour) {
            return colour >= 0 && colour < settings[COLOURS];
        }

        boolean canBeAltered() {
            return stitches > 0 && settings[COLOURS] > 1;
        }

        int stitchesOf(int colour) {
            int many = 0;
            for (int i = 0; i < stitches; i++) {
                if (hues[i] == colour) {
                    many++;
                }
            }
            return many;
        }

        int stitchAt(int x, int row) {
            int width = settings[WIDTH];
            boolean fromTheLeft = settings[ROUND] == 1 || row % 2 == 0;
            return row * width + (fromTheLeft ? x : width - 1 - x);
        }

        /** Numbers the STITCHES as they are knitted. */
        void arrange() {
            int width = settings[WIDTH];
            stitches = width * settings[HEIGHT];
            for (int row = 0; row < settings[HEIGHT]; row++) {
                for (int x = 0; x < width; x++) {
                    int i = stitchAt(x, row);
                    hues[i] = cells[row * width + x];
                    places[i] = x;
                    rows[i] = row;
                }
            }
        }

        int named(long name) {
            for (int k = 0; k < settings[COLOURS]; k++) {
                if (names[k] == name) {
                    return k;
                }
            }
            return NONE;
        }

        /** Gives one STITCH another COLOUR, for what is reckoned by STITCHES; the cells stay as they are. */
        void recolour(int stitch, int colour) {
            if (hasStitch(stitch) && hasColour(colour)) {
                hues[stitch] = colour;
            }
        }

        /** Makes the right of each ROW like its left; how many STITCHES become other ones. */
        int mirror() {
            int width = settings[WIDTH];
            int changed = 0;
            for (int row = 0; row < settings[HEIGHT]; row++) {
                for (int x = 0; x < width / 2; x++) {
                    int left = row * width + x;
                    int right = row * width + width - 1 - x;
                    if (cells[left] != cells[right]) {
                        cells[right] = cells[left];
                        changed++;
                    }
                }
            }
            arrange();
            return changed;
        }

        /** Leaves only the places from left to right in the ROWS from first to last. */
        void cutOut(int left, int right, int first, int last) {
            int width = settings[WIDTH];
            settings[WIDTH] = right - left + 1;
            settings[HEIGHT] = last - first + 1;
            int many = 0;
            // What is moved comes from behind the place to which it goes, or from there itself.
            for (int row = first; row <= last; row++) {
                for (int x = left; x <= right; x++) {
                    cells[many] = cells[row * width + x];
                    many++;
                }
            }
            arrange();
        }

        int matchesBy(int offset) {
            int width = settings[WIDTH];
            int height = settings[HEIGHT];
            int many = 0;
            for (int row = 0; row < height; row++) {
                int mate = (row + offset) % height;
                if (cells[row * width + width - 1] == cells[mate * width]) {
                    many++;
                }
            }
            return many;
        }

        /** Puts by each STITCH the least STITCH of its PATCH. */
        void group(int[] groups) {
            int many = stitches;
            for (int i = 0; i < many; i++) {
                groups[i] = i;
            }
            // A least STITCH is told on by one STITCH a turn at least, so that many turns are enough.
            boolean changed = true;
            for (int turn = 0; turn < many && changed; turn++) {
                changed = false;
                for (int i = 0; i < many; i++) {
                    changed |= groupWith(groups, i, stitchAtRightOf(i));
                    changed |= groupWith(groups, i, stitchBelow(i));
                }
            }
        }

        private int stitchAtRightOf(int i) {
            int x = places[i] + 1;
            if (x < settings[WIDTH]) {
                return stitchAt(x, rows[i]);
            }
            return settings[ROUND] == 1 ? stitchAt(0, rows[i]) : NONE;
        }

        private int stitchBelow(int i) {
            return hasRow(rows[i] + 1) ? stitchAt(places[i], rows[i] + 1) : NONE;
        }

        private boolean groupWith(int[] groups, int i, int neighbour) {
            if (neighbour == NONE || hues[i] != hues[neighbour] || groups[i] == groups[neighbour]) {
                return false;
            }
            int least = Math.min(groups[i], groups[neighbour]);
            groups[i] = least;
            groups[neighbour] = least;
            return true;
        }

        /** How a THREAD may go on from a STITCH to another one. */
        int wayBetween(int i, int j) {
            if (!hasCouple(i, j) || hues[i] != hues[j]) {
                return NO_WAY;
            }
            int between = j - i - 1;
            if (between == 0) {
                return NEXT;
            }
            if (settings[ROUND] == 1 || rows[i] == rows[j]) {
                if (between <= settings[CARRY]) {
                    return CARRIED;
                }
                return settings[TWIST] == 0 ? NO_WAY : TWISTED;
            }
            boolean near = Math.abs(places[i] - places[j]) <= settings[WAIT];
            return rows[j] == rows[i] + 1 && near ? WAITS : NO_WAY;
        }

        /** Whether a LINK lies behind the STITCHES between, carried or twisted. */
        boolean isBehindWork(int i, int j) {
            int way = wayBetween(i, j);
            return way == CARRIED || way == TWISTED;
        }

        /** What a LINK costs; 0 where there can be none. */
        int priceOf(int i, int j) {
            return priceBy(wayBetween(i, j), i, j);
        }

        int priceBy(int way, int i, int j) {
            if (way == WAITS) {
                return settings[WAIT_COST];
            }
            if (way != CARRIED && way != TWISTED) {
                return 0;
            }
            int price = (j - i - 1) * settings[CARRY_COST];
            int step = settings[TWIST];
            if (way == TWISTED && step > 0) {
                for (int k = i + step; k < j; k += step) {
                    int hue = hues[k];
                    price += hue >= 0 && hue < MOST_COLOURS ? shows[hue] : 0;
                }
            }
            return price;
        }

        int yarnAt(int stitch) {
            return hasStitch(stitch) && hasColour(hues[stitch]) ? yarns[hues[stitch]] : 0;
        }

        /** YARN of a LINK; 0 where there can be none. */
        int strandOf(int i, int j) {
            int way = wayBetween(i, j);
            if (way == WAITS) {
                return settings[STRAND] * Math.abs(places[i] - places[j]);
            }
            return way == CARRIED || way == TWISTED ? settings[STRAND] * (j - i - 1) : 0;
        }
    }

    /** LINKS: by each STITCH the one to which a LINK goes from it, and the one from which one comes. */
    static final class Plan {
        final int[] later = new int[MOST_STITCHES];
        final int[] earlier = new int[MOST_STITCHES];

        Plan() {
            empty();
        }

        void empty() {
            Arrays.fill(later, NONE);
            Arrays.fill(earlier, NONE);
        }

        void copyFrom(Plan model) {
            System.arraycopy(model.later, 0, later, 0, MOST_STITCHES);
            System.arraycopy(model.earlier, 0, earlier, 0, MOST_STITCHES);
        }

        boolean isOpen(int i, int j) {
            return isCouple(i, j) && later[i] == NONE && earlier[j] == NONE;
        }

        void join(int i, int j) {
            if (isCouple(i, j)) {
                later[i] = j;
                earlier[j] = i;
            }
        }

        void part(int i) {
            int j = after(i);
            if (isCouple(i, j)) {
                later[i] = NONE;
                earlier[j] = NONE;
            }
        }

        private boolean isCouple(int i, int j) {
            return i >= 0 && i < j && j < MOST_STITCHES;
        }

        /** The STITCH to which a LINK goes from one; NONE without a LINK, or without that STITCH. */
        int after(int i) {
            return i >= 0 && i < MOST_STITCHES ? later[i] : NONE;
        }

        int threadsOf(Chart chart, int colour) {
            int many = 0;
            for (int i = 0; i < chart.stitches; i++) {
                if (earlier[i] == NONE && (colour == NONE || chart.hues[i] == colour)) {
                    many++;
                }
            }
            return many;
        }

        /** The first STITCH of a THREAD; NONE without that THREAD. */
        int firstOf(Chart chart, int thread) {
            int ahead = 0;
            for (int i = 0; i < chart.stitches; i++) {
                if (earlier[i] == NONE) {
                    if (ahead == thread) {
                        return i;
                    }
                    ahead++;
                }
            }
            return NONE;
        }

        int lastFrom(int first) {
            int last = first;
            for (int k = 0; k < MOST_STITCHES && after(last) != NONE; k++) {
                last = after(last);
            }
            return last;
        }

        int stitchesFrom(int first) {
            int many = 0;
            int i = first;
            for (int k = 0; k < MOST_STITCHES && i != NONE; k++) {
                many++;
                i = after(i);
            }
            return many;
        }

        int yarnFrom(Chart chart, int first) {
            int sum = 0;
            int i = first;
            for (int k = 0; k < MOST_STITCHES && i != NONE; k++) {
                sum += chart.yarnAt(i) + chart.strandOf(i, after(i));
                i = after(i);
            }
            return sum;
        }

        int yarnFor(Chart chart, int colour) {
            int sum = 0;
            for (int i = 0; i < chart.stitches; i++) {
                if (chart.hues[i] == colour) {
                    sum += chart.yarnAt(i) + chart.strandOf(i, later[i]);
                }
            }
            return sum;
        }

        int hangingIn(Chart chart, int row) {
            int many = 0;
            for (int i = 0; i < chart.stitches; i++) {
                if (earlier[i] == NONE && chart.rows[i] <= row && row <= chart.rows[lastFrom(i)]) {
                    many++;
                }
            }
            return many;
        }

        int tangledIn(Chart chart, int row) {
            int above = hangingIn(chart, row) - chart.settings[BALLS];
            return Math.max(0, above) * chart.settings[BALLS_COST];
        }

        int costOn(Chart chart) {
            int sum = threadsOf(chart, NONE) * 2 * chart.settings[END];
            for (int i = 0; i < chart.stitches; i++) {
                sum += chart.priceOf(i, later[i]);
            }
            for (int row = 0; row < chart.settings[HEIGHT]; row++) {
                sum += tangledIn(chart, row);
            }
            return sum;
        }

        int linksBehind(Chart chart, int stitch) {
            int many = 0;
            for (int i = 0; i < stitch; i++) {
                if (later[i] > stitch && chart.isBehindWork(i, later[i])) {
                    many++;
                }
            }
            return many;
        }

        void makePlain(Chart chart) {
            empty();
            for (int i = 0; i < chart.stitches; i++) {
                for (int j = i + 1; j < chart.stitches && later[i] == NONE; j++) {
                    int way = chart.wayBetween(i, j);
                    if ((way == NEXT || way == CARRIED) && earlier[j] == NONE) {
                        join(i, j);
                    }
                }
            }
        }

        int fillUp(Chart chart) {
            int came = 0;
            for (int j = 0; j < chart.stitches; j++) {
                int i = earlier[j] == NONE ? cheapestTo(chart, j) : NONE;
                if (i != NONE) {
                    join(i, j);
                    came++;
                }
            }
            return came;
        }

        private int cheapestTo(Chart chart, int j) {
            int cheapest = NONE;
            int least = 2 * chart.settings[END];
            for (int i = j - 1; i >= 0; i--) {
                if (later[i] == NONE && chart.wayBetween(i, j) != NO_WAY && chart.priceOf(i, j) < least) {
                    cheapest = i;
                    least = chart.priceOf(i, j);
                }
            }
            return cheapest;
        }

        int tidyUp(Chart chart) {
            int went = 0;
            for (int guard = 0; guard < MOST_STITCHES; guard++) {
                int i = worstLink(chart);
                if (i == NONE) {
                    return went;
                }
                part(i);
                went++;
            }
            return went;
        }

        /** The STITCH whose LINK is best taken away; NONE if COST would fall by none. */
        private int worstLink(Chart chart) {
            int worst = NONE;
            int least = costOn(chart);
            for (int i = 0; i < chart.stitches; i++) {
                int j = later[i];
                if (j != NONE) {
                    part(i);
                    int cost = costOn(chart);
                    join(i, j);
                    if (cost < least) {
                        worst = i;
                        least = cost;
                    }
                }
            }
            return worst;
        }
    }

    /** DIRECTIONS, line by line: each STEP is one, and each end of a loop. */
    static final class Directions {
        static final int KNIT = 0;
        static final int CUT = 1;
        static final int LOOP = 2;
        static final int LOOP_END = 3;
        // No STEP has more than one end.
        static final int MOST_LINES = 2 * MOST_STEPS;

        final int[] kinds = new int[MOST_LINES];
        final int[] colours = new int[MOST_LINES];
        final int[] numbers = new int[MOST_LINES];
        int lines;
        int steps;
        boolean there;

        void forget() {
            lines = 0;
            steps = 0;
            there = false;
        }

        void copyFrom(Directions model) {
            System.arraycopy(model.kinds, 0, kinds, 0, MOST_LINES);
            System.arraycopy(model.colours, 0, colours, 0, MOST_LINES);
            System.arraycopy(model.numbers, 0, numbers, 0, MOST_LINES);
            lines = model.lines;
            steps = model.steps;
            there = model.there;
        }

        void add(int kind, int colour, int number) {
            if (lines < MOST_LINES) {
                kinds[lines] = kind;
                colours[lines] = colour;
                numbers[lines] = number;
                lines++;
                steps += kind == LOOP_END ? 0 : 1;
            }
        }
    }

    /** What a MARK keeps. */
    static final class Mark {
        final Chart chart = new Chart();
        final Plan plan = new Plan();
        final Directions directions = new Directions();
    }

    /** The tape, and the TEXT at its beginning TOKEN by TOKEN, up to the first FAULT. */
    static final class Tape {
        static final int LAST = 0;
        static final int STRANGE = 1;
        static final int SIGN = 2;
        static final int NUMBER = 3;
        static final int WORD = 4;
        // A WORD is kept as a number whose digits are its letters, so that no call makes an object.
        static final long BASE = 32;
        // That of a WORD of 9 letters and more, which can't be a NAME or any WORD of the grammar.
        static final long TOO_LONG = 0;

        final byte[] bytes = new byte[MOST_ON_TAPE];
        int fed;
        int fault = NONE;
        int faultPlace = NONE;
        // The TOKEN that was come to latest.
        int kind;
        int number;
        long word;
        private int length;
        private int place;
        private int next;

        void put(int four) {
            for (int shift = 24; shift >= 0; shift -= 8) {
                if (fed < MOST_ON_TAPE) {
                    bytes[fed] = (byte) (four >> shift);
                    fed++;
                }
            }
        }

        /** Begins to read so many bytes as a TEXT; the tape is empty then. */
        void open(int many) {
            length = Math.min(many, MOST_ON_TAPE);
            fed = 0;
            fault = 0;
            faultPlace = NONE;
            next = 0;
        }

        boolean wrong(int what) {
            fault = what;
            faultPlace = place;
            return false;
        }

        /** Goes on to the next TOKEN, the text's end counting as one; false where none begins so. */
        boolean go() {
            while (next < length && (bytes[next] == 10 || bytes[next] == 32)) {
                next++;
            }
            place = next;
            int sign = place < length ? bytes[place] : 0;
            kind = STRANGE;
            if (place >= length) {
                kind = LAST;
            } else if (sign >= 'a' && sign <= 'z') {
                readWord();
            } else if (sign >= '0' && sign <= '9') {
                readNumber();
            } else if (sign == ';') {
                kind = SIGN;
                next++;
            }
            return kind != STRANGE || wrong(NO_TOKEN);
        }

        boolean goWord(String wanted) {
            return go() && (isWord(wanted) || wrong(MISPLACED));
        }

        boolean goSign() {
            return go() && (kind == SIGN || wrong(MISPLACED));
        }

        boolean goNumber(int low, int high) {
            if (!go()) {
                return false;
            }
            if (kind != NUMBER) {
                return wrong(MISPLACED);
            }
            return number >= low && number <= high || wrong(WRONG_NUMBER);
        }

        boolean isWord(String wanted) {
            long code = 0;
            for (int k = 0; k < wanted.length(); k++) {
                code = code * BASE + wanted.charAt(k) - 'a' + 1;
            }
            return kind == WORD && word == code;
        }

        private void readWord() {
            kind = WORD;
            word = 0;
            while (next < length && bytes[next] >= 'a' && bytes[next] <= 'z') {
                word = word * BASE + bytes[next] - 'a' + 1;
                next++;
            }
            if (next - place > LONGEST_NAME) {
                word = TOO_LONG;
            }
        }

        private void readNumber() {
            number = 0;
            while (next < length && bytes[next] >= '0' && bytes[next] <= '9') {
                number = number * 10 + bytes[next] - '0';
                next++;
            }
            kind = next - place > LONGEST_NUMBER ? STRANGE : NUMBER;
        }
    }

    /** Reads a CHART into its draft. */
    static final class ChartReader {
        final Tape tape;
        final Chart draft = new Chart();
        // A bit for each setting that the text has told.
        private int told;
        private int rows;

        ChartReader(Tape from) {
            tape = from;
        }

        boolean reads(int many) {
            tape.open(many);
            draft.empty();
            told = 0;
            rows = 0;
            if (!readSize()) {
                return false;
            }
            // Each PART has a TOKEN at least.
            for (int guard = 0; guard <= MOST_ON_TAPE; guard++) {
                if (!tape.go()) {
                    return false;
                }
                if (tape.kind == Tape.LAST) {
                    return ends();
                }
                if (!readPart()) {
                    return false;
                }
            }
            return false;
        }

        private boolean ends() {
            if (rows < draft.settings[HEIGHT]) {
                return tape.wrong(TOO_FEW_ROWS);
            }
            draft.arrange();
            return true;
        }

        private boolean readSize() {
            if (!tape.goWord("size") || !tape.goNumber(1, MOST_WIDTH)) {
                return false;
            }
            draft.settings[WIDTH] = tape.number;
            if (!tape.goNumber(1, MOST_HEIGHT)) {
                return false;
            }
            draft.settings[HEIGHT] = tape.number;
            return tape.goSign();
        }

        private boolean readPart() {
            if (tape.isWord("colour")) {
                return readColour();
            }
            if (tape.isWord("row")) {
                return readRow();
            }
            if (tape.isWord("end")) {
                return readSetting(END, 0, 99);
            }
            if (tape.isWord("carry")) {
                return readPriced(CARRY, 0, 47, 9);
            }
            if (tape.isWord("twist")) {
                return readSetting(TWIST, 0, 9);
            }
            if (tape.isWord("wait")) {
                return readPriced(WAIT, 0, 7, 99);
            }
            if (tape.isWord("balls")) {
                return readPriced(BALLS, 1, 48, 99);
            }
            if (tape.isWord("strand")) {
                return readSetting(STRAND, 0, 99);
            }
            if (tape.isWord("sew")) {
                return readSetting(SEW, 0, 999);
            }
            if (tape.isWord("alter")) {
                return readSetting(ALTER, 0, 999);
            }
            if (tape.isWord("round")) {
                return readRound();
            }
            return tape.wrong(MISPLACED);
        }

        private boolean readColour() {
            int colour = draft.settings[COLOURS];
            if (colour >= MOST_COLOURS) {
                return tape.wrong(TOO_MANY_TOLD);
            }
            if (!tape.go()) {
                return false;
            }
            if (!isName()) {
                return tape.wrong(MISPLACED);
            }
            if (draft.named(tape.word) != NONE) {
                return tape.wrong(WRONG_NAME);
            }
            draft.names[colour] = tape.word;
            if (!tape.goWord("shows") || !tape.goNumber(0, 9)) {
                return false;
            }
            draft.shows[colour] = tape.number;
            if (!tape.goWord("yarn") || !tape.goNumber(1, 99)) {
                return false;
            }
            draft.yarns[colour] = tape.number;
            draft.settings[COLOURS] = colour + 1;
            return tape.goSign();
        }

        private boolean readRow() {
            if (rows >= draft.settings[HEIGHT]) {
                return tape.wrong(TOO_MANY_TOLD);
            }
            int width = draft.settings[WIDTH];
            // Behind the last STITCH comes the SIGN, or a FAULT.
            for (int x = 0; x <= width; x++) {
                if (!tape.go()) {
                    return false;
                }
                if (tape.kind == Tape.SIGN && x > 0) {
                    rows++;
                    return x == width || tape.wrong(TOO_FEW_IN_ROW);
                }
                if (!readStitch(x, width)) {
                    return false;
                }
            }
            return false;
        }

        private boolean readStitch(int x, int width) {
            if (!isName()) {
                return tape.wrong(MISPLACED);
            }
            int colour = draft.named(tape.word);
            if (colour == NONE) {
                return tape.wrong(WRONG_NAME);
            }
            if (x >= width) {
                return tape.wrong(TOO_MANY_TOLD);
            }
            draft.cells[rows * width + x] = colour;
            return true;
        }

        private boolean readSetting(int setting, int low, int high) {
            return isFirst(setting) && readNumber(setting, low, high) && tape.goSign();
        }

        /** A setting and, behind it, its cost. */
        private boolean readPriced(int setting, int low, int high, int mostCost) {
            return isFirst(setting) && readNumber(setting, low, high)
                && tape.goWord("cost") && readNumber(setting + 1, 0, mostCost) && tape.goSign();
        }

        private boolean readRound() {
            if (!isFirst(ROUND)) {
                return false;
            }
            draft.settings[ROUND] = 1;
            return tape.goSign();
        }

        private boolean isFirst(int setting) {
            if ((told >> setting & 1) == 1) {
                return tape.wrong(TOLD_ALREADY);
            }
            told |= 1 << setting;
            return true;
        }

        private boolean readNumber(int setting, int low, int high) {
            if (!tape.goNumber(low, high)) {
                return false;
            }
            draft.settings[setting] = tape.number;
            return true;
        }

        private boolean isName() {
            if (tape.kind != Tape.WORD || tape.word == Tape.TOO_LONG) {
                return false;
            }
            return !(tape.isWord("size") || tape.isWord("colour") || tape.isWord("shows")
                || tape.isWord("yarn") || tape.isWord("row") || tape.isWord("end")
                || tape.isWord("carry") || tape.isWord("cost") || tape.isWord("twist")
                || tape.isWord("wait") || tape.isWord("balls") || tape.isWord("strand")
                || tape.isWord("sew") || tape.isWord("alter") || tape.isWord("round"));
        }
    }

    /** Reads DIRECTIONS into its draft. */
    static final class DirectionsReader {
        final Tape tape;
        final Directions draft = new Directions();
        private int open;

        DirectionsReader(Tape from) {
            tape = from;
        }

        boolean reads(int many, Chart chart) {
            tape.open(many);
            draft.forget();
            open = 0;
            // Each STEP, and each end, has a TOKEN at least.
            for (int guard = 0; guard <= MOST_IN_DIRECTIONS; guard++) {
                if (!tape.go()) {
                    return false;
                }
                if (tape.kind == Tape.LAST) {
                    draft.there = true;
                    return open == 0 || tape.wrong(MISPLACED);
                }
                if (!readLine(chart)) {
                    return false;
                }
            }
            return false;
        }

        private boolean readLine(Chart chart) {
            if (tape.isWord("knit")) {
                return hasRoom() && readKnit(chart);
            }
            if (tape.isWord("cut")) {
                return hasRoom() && readCut(chart);
            }
            if (tape.isWord("loop")) {
                return hasRoom() && readLoop();
            }
            if (tape.isWord("end") && open > 0) {
                open--;
                draft.add(Directions.LOOP_END, NONE, 0);
                return tape.goSign();
            }
            return tape.wrong(MISPLACED);
        }

        private boolean hasRoom() {
            return draft.steps < MOST_STEPS || tape.wrong(TOO_MANY_TOLD);
        }

        private boolean readKnit(Chart chart) {
            if (!goName(chart)) {
                return false;
            }
            int colour = chart.named(tape.word);
            if (!tape.goNumber(1, MOST_STITCHES)) {
                return false;
            }
            draft.add(Directions.KNIT, colour, tape.number);
            return tape.goSign();
        }

        private boolean readCut(Chart chart) {
            if (!goName(chart)) {
                return false;
            }
            draft.add(Directions.CUT, chart.named(tape.word), 0);
            return tape.goSign();
        }

        private boolean readLoop() {
            if (open >= MOST_LOOPS) {
                return tape.wrong(TOO_DEEP);
            }
            if (!tape.goNumber(1, MOST_STITCHES)) {
                return false;
            }
            open++;
            draft.add(Directions.LOOP, NONE, tape.number);
            return tape.goSign();
        }

        private boolean goName(Chart chart) {
            if (!tape.go()) {
                return false;
            }
            if (!isName()) {
                return tape.wrong(MISPLACED);
            }
            return chart.named(tape.word) != NONE || tape.wrong(WRONG_NAME);
        }

        private boolean isName() {
            if (tape.kind != Tape.WORD || tape.word == Tape.TOO_LONG) {
                return false;
            }
            return !(tape.isWord("knit") || tape.isWord("cut")
                || tape.isWord("loop") || tape.isWord("end"));
        }
    }

    /** Follows DIRECTIONS, and keeps what came of those FOLLOWED latest. */
    static final class Follower {
        static final int GOES_ON = -1;
        // Each of the STEPS that are done can be a loop whose end is come to so often as it is done.
        static final int MOST_LINES_DONE = 2 * MOST_STEPS_DONE * MOST_STITCHES;

        final Plan links = new Plan();
        int knitted;
        int balls;
        int price;
        int steps;
        boolean hasRun;
        // Whether it was since the latest chart() or back(), so that the LINKS fit the CHART.
        boolean isFresh;
        // The STITCH at which each COLOUR's ball hangs; NONE without a ball.
        private final int[] hanging = new int[MOST_COLOURS];
        private final int[] loopLines = new int[MOST_LOOPS];
        private final int[] loopTurns = new int[MOST_LOOPS];
        private int open;

        int run(Chart chart, Directions directions) {
            begin();
            int line = 0;
            for (int guard = 0; guard < MOST_LINES_DONE; guard++) {
                if (line >= directions.lines) {
                    return knitted == chart.stitches ? WELL : SHORT;
                }
                int kind = directions.kinds[line];
                if (kind == Directions.LOOP_END) {
                    line = behindEnd(line);
                } else if (steps >= MOST_STEPS_DONE) {
                    return LEFT;
                } else {
                    steps++;
                    int outcome = doStep(chart, directions, line);
                    if (outcome != GOES_ON) {
                        return outcome;
                    }
                    line++;
                }
            }
            return LEFT;
        }

        private void begin() {
            links.empty();
            knitted = 0;
            balls = 0;
            price = 0;
            steps = 0;
            open = 0;
            hasRun = true;
            isFresh = true;
            Arrays.fill(hanging, NONE);
        }

        private int doStep(Chart chart, Directions directions, int line) {
            int colour = directions.colours[line];
            switch (directions.kinds[line]) {
                case Directions.KNIT:
                    return knitSome(chart, colour, directions.numbers[line]);
                case Directions.CUT:
                    if (chart.hasColour(colour)) {
                        hanging[colour] = NONE;
                    }
                    return GOES_ON;
                default:
                    openLoop(line, directions.numbers[line]);
                    return GOES_ON;
            }
        }

        private void openLoop(int line, int turns) {
            if (open < MOST_LOOPS) {
                loopLines[open] = line;
                loopTurns[open] = turns;
                open++;
            }
        }

        /** The line behind a loop's end: its first one as long as it is to be done once more. */
        private int behindEnd(int line) {
            if (open <= 0 || open > MOST_LOOPS) {
                return line + 1;
            }
            int loop = open - 1;
            loopTurns[loop]--;
            if (loopTurns[loop] > 0) {
                return loopLines[loop] + 1;
            }
            open--;
            return line + 1;
        }

        private int knitSome(Chart chart, int colour, int many) {
            for (int k = 0; k < many; k++) {
                int outcome = knitOne(chart, colour);
                if (outcome != GOES_ON) {
                    return outcome;
                }
            }
            return GOES_ON;
        }

        private int knitOne(Chart chart, int colour) {
            if (!chart.hasStitch(knitted)) {
                return LONG;
            }
            if (!chart.hasColour(colour) || chart.hues[knitted] != colour) {
                return WRONG;
            }
            int from = hanging[colour];
            if (from == NONE) {
                balls++;
                price += 2 * chart.settings[END];
            } else if (chart.wayBetween(from, knitted) == NO_WAY) {
                return BROKEN;
            } else {
                links.join(from, knitted);
                price += chart.priceOf(from, knitted);
            }
            hanging[colour] = knitted;
            knitted++;
            return GOES_ON;
        }
    }

    /**
     * Finds what some STITCHES (the goals) cost at least, if a LINK comes to each of them from one of
     * some others (the sources), from each to one at the most, or nothing comes, at a price. It takes
     * goal by goal and gives each the cheapest chain of changes (the Hungarian way), so that the sum
     * stays the least one.
     */
    static final class Pairing {
        // Dearer than all that LINKS and ENDS together can cost.
        static final int NEVER = 1000000;
        static final int FAR = 2 * NEVER;
        // Column 0 stands for no LINK; behind it there is one for each source, and the root.
        static final int MOST_COLUMNS = MOST_STITCHES + 2;

        private final int[] sources = new int[MOST_STITCHES];
        private final int[] goals = new int[MOST_STITCHES];
        private int sourceCount;
        private int goalCount;
        // Prices by goal and column.
        private final int[] prices = new int[MOST_STITCHES * MOST_COLUMNS];
        private final int[] goalShares = new int[MOST_STITCHES];
        private final int[] columnShares = new int[MOST_COLUMNS];
        private final int[] holders = new int[MOST_COLUMNS];
        private final int[] comeFrom = new int[MOST_COLUMNS];
        private final int[] distances = new int[MOST_COLUMNS];
        private final boolean[] reached = new boolean[MOST_COLUMNS];

        int leastOfAll(Chart chart) {
            int sum = 0;
            for (int colour = 0; colour < chart.settings[COLOURS]; colour++) {
                gather(chart, colour);
                price(chart, false);
                sum += settle();
            }
            return sum;
        }

        int leastOf(Chart chart, int colour) {
            gather(chart, colour);
            price(chart, false);
            return settle();
        }

        int fewestOf(Chart chart, int colour) {
            gather(chart, colour);
            price(chart, true);
            return settle();
        }

        int leastOfRow(Chart chart, Plan plan, int row) {
            sourceCount = 0;
            goalCount = 0;
            for (int i = 0; i < chart.stitches; i++) {
                if (chart.rows[i] == row) {
                    addGoal(i);
                    addSource(i);
                } else if (chart.rows[i] == row - 1) {
                    int later = plan.later[i];
                    if (!chart.hasStitch(later) || chart.rows[later] >= row) {
                        addSource(i);
                    }
                }
            }
            price(chart, false);
            return settle();
        }

        private void gather(Chart chart, int colour) {
            sourceCount = 0;
            goalCount = 0;
            for (int i = 0; i < chart.stitches; i++) {
                if (chart.hues[i] == colour) {
                    addSource(i);
                    addGoal(i);
                }
            }
        }

        private void addSource(int i) {
            if (sourceCount < MOST_STITCHES) {
                sources[sourceCount] = i;
                sourceCount++;
            }
        }

        private void addGoal(int i) {
            if (goalCount < MOST_STITCHES) {
                goals[goalCount] = i;
                goalCount++;
            }
        }

        /**
         * What each goal costs by each column; if THREADS are counted, only that one begins at a goal to
         * which no LINK comes.
         */
        private void price(Chart chart, boolean byCount) {
            int alone = byCount ? 1 : 2 * chart.settings[END];
            for (int goal = 0; goal < goalCount; goal++) {
                int start = goal * MOST_COLUMNS;
                int j = goals[goal];
                prices[start] = alone;
                for (int k = 0; k < sourceCount; k++) {
                    int way = chart.wayBetween(sources[k], j);
                    int price = byCount ? 0 : chart.priceBy(way, sources[k], j);
                    prices[start + 1 + k] = way == NO_WAY ? NEVER : price;
                }
            }
        }

        private int settle() {
            Arrays.fill(holders, NONE);
            Arrays.fill(goalShares, 0);
            Arrays.fill(columnShares, 0);
            for (int goal = 0; goal < goalCount; goal++) {
                bringIn(goal);
            }
            int sum = 0;
            int alone = goalCount;
            for (int column = 1; column <= sourceCount; column++) {
                if (holders[column] != NONE) {
                    sum += prices[holders[column] * MOST_COLUMNS + column];
                    alone--;
                }
            }
            return sum + alone * prices[0];
        }

        /** Finds the cheapest chain of changes by which one goal more gets its column. */
        private void bringIn(int goal) {
            int root = sourceCount + 1;
            Arrays.fill(distances, FAR);
            for (int column = 0; column <= root; column++) {
                reached[column] = false;
            }
            holders[root] = goal;
            int at = root;
            // Column 0 takes any number of goals, so that it is always free.
            for (int k = 0; k < MOST_COLUMNS && at != 0 && holders[at] != NONE; k++) {
                reached[at] = true;
                measureFrom(at);
                at = nearest();
                shift(at, root);
            }
            changeAlong(at, root);
        }

        private void measureFrom(int at) {
            int goal = holders[at];
            for (int column = 0; column <= sourceCount; column++) {
                if (!reached[column]) {
                    int distance = prices[goal * MOST_COLUMNS + column]
                        - goalShares[goal] - columnShares[column];
                    if (distance < distances[column]) {
                        distances[column] = distance;
                        comeFrom[column] = at;
                    }
                }
            }
        }

        private int nearest() {
            int nearest = 0;
            for (int column = 1; column <= sourceCount; column++) {
                if (!reached[column] && distances[column] < distances[nearest]) {
                    nearest = column;
                }
            }
            return nearest;
        }

        private void shift(int at, int root) {
            int step = distances[at];
            for (int column = 0; column <= root; column++) {
                int goal = holders[column];
                if (reached[column] && goal != NONE) {
                    goalShares[goal] += step;
                    columnShares[column] -= step;
                } else {
                    distances[column] -= step;
                }
            }
        }

        private void changeAlong(int last, int root) {
            int at = last;
            for (int k = 0; k < MOST_COLUMNS && at != root; k++) {
                int ahead = comeFrom[at];
                if (at != 0) {
                    holders[at] = holders[ahead];
                }
                at = ahead;
            }
            holders[root] = NONE;
        }
    }

    /** The BEST alterations of a CHART, each on the CHART as altered ahead; and those told latest. */
    static final class Alterations {
        final int[] stitches = new int[MOST_FEW];
        final int[] colours = new int[MOST_FEW];
        final int[] savings = new int[MOST_FEW];
        // How many were found for the CHART as it is; they are kept, since they are dear to find.
        int found;
        int toldOnes;
        private final int[] told = new int[3 * MOST_FEW];
        private final Chart altered = new Chart();
        private final Pairing pairing;

        Alterations(Pairing reckoner) {
            pairing = reckoner;
        }

        /** Finds so many, as long as they SAVE more than 0; the first one anyhow. */
        void find(Chart chart, int many) {
            if (found == 0) {
                altered.copyFrom(chart);
            }
            for (int k = found; k < many && k < MOST_FEW && (k == 0 || savings[k - 1] > 0); k++) {
                if (k > 0) {
                    altered.recolour(stitches[k - 1], colours[k - 1]);
                }
                findOne(k);
                found = k + 1;
            }
        }

        private void findOne(int k) {
            int now = pairing.leastOfAll(altered) - altered.settings[ALTER];
            savings[k] = -Pairing.NEVER;
            for (int i = 0; i < altered.stitches; i++) {
                int own = altered.hues[i];
                for (int colour = 0; colour < altered.settings[COLOURS]; colour++) {
                    if (colour != own) {
                        altered.recolour(i, colour);
                        int saving = now - pairing.leastOfAll(altered);
                        if (saving > savings[k]) {
                            savings[k] = saving;
                            stitches[k] = i;
                            colours[k] = colour;
                        }
                    }
                }
                altered.recolour(i, own);
            }
        }

        /** Keeps those of the first ones that SAVE more than 0, for the calls that ask for them. */
        void tell(int many) {
            toldOnes = 0;
            for (int k = 0; k < many && k < found && savings[k] > 0; k++) {
                told[3 * k] = stitches[k];
                told[3 * k + 1] = colours[k];
                told[3 * k + 2] = savings[k];
                toldOnes++;
            }
        }

        int toldAt(int k, int what) {
            int place = 3 * k + what;
            return k >= 0 && k < toldOnes && what >= 0 && what < 3 ? told[place] : NONE;
        }
    }
}
