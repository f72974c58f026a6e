import java.util.Arrays;

/**
 * Pairs of twins on a field of cells, who have to be just so many steps apart, so that one who goes
 * draws the other one after it. The words in capital letters are those of the document.
 */
public final class TwinSpan {
    /** There is none. */
    public static final int NONE = -1;

    private static final int NO_SUCH = -2;
    private static final int BAD_NUMBER = -3;
    private static final int TOO_MANY = -4;
    private static final int NOT_NOW = -5;
    private static final int TRAY_MISSING = -6;
    private static final int NO_PLACE = -7;
    private static final int REFUSED_DEED = -10;
    private static final int REFUSED_TEXT = -30;

    private static final int WHY_NO_SUCH = 1;
    private static final int WHY_CELL = 2;
    private static final int WHY_LAW = 3;
    private static final int WHY_DRAWN = 4;

    private static final int CELLS = 36;
    /** Neither a CELL nor NONE: no stand fits to it. */
    private static final int NOWHERE = -2;
    private static final int PAIRS = 3;
    private static final int SIDE = 6;
    private static final int MAX_SPAN = 10;
    private static final int WALL_HEIGHT = 9;
    private static final int MOODS = 10;
    private static final int WAYS = 4;
    /** What one ROW's LEAD can be: 2 TWINS in 4 directions each. */
    private static final int LEADS = 8;
    /** Of 36 CELLS at most 232 ordered pairs are equally far apart. */
    private static final int STATES = 256;
    private static final int MARKS = 4;
    /** Two CELLS in one number: the first one times this, and the second. */
    private static final int PACK = 64;
    private static final int TAPE = 900;
    private static final int KEPT = 10;
    private static final int TRAYS = 4;
    private static final int PLACES = 40;
    private static final int IMAGES = 2;
    private static final int TRIES = 12;
    private static final int LONGEST_ROW = 15;
    private static final int LONGEST_CHANCE = 5;
    private static final int LONGEST_DAY = 40;
    /** All numbers of LEADS that can be, 1 to 8, divide it. */
    private static final long SHARES = 840;

    private final byte[] tape = new byte[TAPE];
    private int tapeSize;
    private int faultKind;
    private int faultPlace = NONE;
    private final Board board;
    /** As it was ahead of a deed, to be kept if it could be; or what judged deeds would make of it. */
    private final Board spare;
    private final Reader reader;
    private final Stepper stepper;
    private final Graph graph = new Graph();
    private final Graph walled = new Graph();
    /** The PAIR that the graph was made for, NONE behind each change. */
    private int graphPair = NONE;
    private final Cheap cheap = new Cheap();
    private final Errand errand = new Errand();
    private final Game game = new Game();
    private final Odds odds = new Odds();
    private final History history;
    private final Tray[] trays = new Tray[TRAYS];
    private final Board[] images = new Board[IMAGES];

    public TwinSpan() {
        Plan empty = new Plan(1, 1);
        board = new Board(empty);
        spare = new Board(empty);
        reader = new Reader(empty);
        stepper = new Stepper(empty);
        history = new History(empty);
        for (int i = 0; i < TRAYS; i++) {
            trays[i] = new Tray();
        }
    }

    // ---- the field

    public int feed(int a, int b, int c, int d, int e) {
        if (tapeSize + 20 > TAPE) {
            return NOT_NOW;
        }
        feedWord(a);
        feedWord(b);
        feedWord(c);
        feedWord(d);
        feedWord(e);
        return tapeSize;
    }

    private void feedWord(int word) {
        for (int shift = 24; shift >= 0 && tapeSize < TAPE; shift -= 8) {
            tape[tapeSize] = (byte) (word >> shift);
            tapeSize++;
        }
    }

    public int field(int n) {
        if (n < 0 || n > tapeSize) {
            return BAD_NUMBER;
        }
        tapeSize = 0;
        boolean whole = reader.reads(tape, n);
        faultKind = reader.faultKind;
        faultPlace = reader.faultPlace;
        if (!whole) {
            return REFUSED_TEXT - faultKind;
        }
        board.copyFrom(reader.draft);
        history.forget();
        forgetWays();
        return board.plan.lines;
    }

    public int fault(int what) {
        if (what == 0) {
            return faultKind;
        }
        return what == 1 ? faultPlace : NONE;
    }

    public int cell(int c, int what) {
        if (!board.plan.isCell(c)) {
            return NO_SUCH;
        }
        if (what == 0) {
            return board.isWall(c) ? WALL_HEIGHT : board.plan.heights[c];
        }
        if (what == 1) {
            return board.twinsAt(c);
        }
        return what == 2 ? board.firstPairAt(c) : NO_SUCH;
    }

    public int pair(int p, int what) {
        if (!board.isPair(p)) {
            return NO_SUCH;
        }
        switch (what) {
            case 0:
            case 1:
                return board.twins[2 * p + what];
            case 2:
                return board.spanOf[p];
            case 3:
                return board.moodOf[p];
            case 4:
            case 5:
                return board.plan.errandCells[2 * p + what - 4];
            case 6:
                return board.doneOf[p];
            default:
                return NO_SUCH;
        }
    }

    public int why(int p, int twin, int way) {
        int there = board.wouldBe(stepper, p, twin, way);
        return there < 0 ? -there : 0;
    }

    public int by(int p, int twin, int way, int what) {
        if (what < 0 || what > 3) {
            return NO_SUCH;
        }
        int there = board.wouldBe(stepper, p, twin, way);
        if (there < 0) {
            return NOT_NOW;
        }
        if (what == 0) {
            return there / PACK;
        }
        if (what == 1) {
            return there % PACK;
        }
        int here = board.standOf(p);
        if (what == 2) {
            return twin == 0
                    ? board.plan.apart(here % PACK, there % PACK)
                    : board.plan.apart(here / PACK, there / PACK);
        }
        return stepper.costOf(here, there);
    }

    // ---- deeds

    public int lead(int p, int twin, int way) {
        int there = board.wouldBe(stepper, p, twin, way);
        if (there < 0) {
            return REFUSED_DEED + there;
        }
        int cost = stepper.costOf(board.standOf(p), there);
        spare.copyFrom(board);
        board.go(p, there);
        keepSpare();
        return cost;
    }

    public int wall(int c) {
        spare.copyFrom(board);
        return deedAnswer(board.turnWall(c));
    }

    public int put(int p, int one, int two) {
        spare.copyFrom(board);
        return deedAnswer(board.place(p, one, two));
    }

    public int mood(int p, int n) {
        spare.copyFrom(board);
        return deedAnswer(board.feel(p, n));
    }

    public int undo(int n) {
        if (n < 1 || n > KEPT || n > history.size) {
            return BAD_NUMBER;
        }
        history.goBack(n, board);
        forgetWays();
        return history.size;
    }

    public int judge(int tray, int what) {
        if (!isTray(tray) || what < 0 || what > 3) {
            return NO_SUCH;
        }
        Tray deeds = trays[tray];
        if (deeds.isMissing()) {
            return TRAY_MISSING;
        }
        spare.copyFrom(board);
        int steps = 0;
        for (int i = 0; i < deeds.size; i++) {
            int gone = spare.act(stepper, deeds.at(i));
            if (gone < 0) {
                return judgement(what, i, -gone, steps);
            }
            steps += gone;
        }
        return judgement(what, NONE, 0, steps);
    }

    /** Behind judge(), which has left on the spare board what would be then. */
    private int judgement(int what, int place, int reason, int steps) {
        if (what == 0) {
            return place;
        }
        if (what == 1) {
            return reason;
        }
        return what == 2 ? spare.allDone() : steps;
    }

    public int perform(int tray) {
        if (!isTray(tray)) {
            return NO_SUCH;
        }
        Tray deeds = trays[tray];
        if (deeds.isMissing()) {
            return TRAY_MISSING;
        }
        spare.copyFrom(board);
        int did = 0;
        for (int i = 0; i < deeds.size; i++) {
            if (board.act(stepper, deeds.at(i)) < 0) {
                break;
            }
            did++;
        }
        if (did > 0) {
            keepSpare();
        }
        return did;
    }

    public int day(int seed, int times) {
        if (times < 1 || times > LONGEST_DAY) {
            return BAD_NUMBER;
        }
        spare.copyFrom(board);
        int x = seed;
        int did = 0;
        for (int i = 0; i < times; i++) {
            x = drawn(x);
            int deed;
            if ((x >>> 16) % 6 == 5) {
                x = drawn(x);
                deed = 1000 + (x >>> 16) % CELLS;
            } else {
                x = drawn(x);
                int twin = (x >>> 16) % 2;
                x = drawn(x);
                int p = (x >>> 16) % PAIRS;
                x = drawn(x);
                deed = 100 * p + 10 * twin + (x >>> 16) % WAYS;
            }
            if (board.act(stepper, deed) >= 0) {
                did++;
            }
        }
        if (did > 0) {
            keepSpare();
        }
        return did;
    }

    private static int drawn(int x) {
        return 1103515245 * x + 12345;
    }

    private int deedAnswer(int answer) {
        if (answer < 0) {
            return REFUSED_DEED + answer;
        }
        keepSpare();
        return answer;
    }

    private void keepSpare() {
        history.keep(spare);
        forgetWays();
    }

    private void forgetWays() {
        graphPair = NONE;
        cheap.isReady = false;
        game.isReady = false;
    }

    // ---- coming

    public int soonest(int p, int one, int two) {
        if (!isGoal(p, one, two)) {
            return NO_SUCH;
        }
        Graph ways = graphOf(p);
        return ways.depthOf(ways.find(one, two));
    }

    public int way(int p, int one, int two, int i) {
        if (!isGoal(p, one, two)) {
            return NO_SUCH;
        }
        if (i < 0) {
            return BAD_NUMBER;
        }
        Graph ways = graphOf(p);
        return told(ways.leadAt(ways.find(one, two), i));
    }

    public int cheapest(int p, int one, int two) {
        if (!isGoal(p, one, two)) {
            return NO_SUCH;
        }
        Graph ways = graphOf(p);
        prepareCheap(p);
        return cheap.costTo(ways, one, two);
    }

    public int cheapWay(int p, int one, int two, int i) {
        if (!isGoal(p, one, two)) {
            return NO_SUCH;
        }
        if (i < 0) {
            return BAD_NUMBER;
        }
        Graph ways = graphOf(p);
        prepareCheap(p);
        return told(cheap.leadTo(ways, one, two, i));
    }

    public long rows(int p, int one, int two, int n) {
        if (!isGoal(p, one, two)) {
            return NO_SUCH;
        }
        if (n < 0 || n > LONGEST_ROW) {
            return BAD_NUMBER;
        }
        Graph ways = graphOf(p);
        odds.start();
        for (int i = 0; i < n; i++) {
            odds.goOn(ways, false);
        }
        return odds.sumAt(ways, one, two);
    }

    public long needed(int p, int one, int two) {
        if (!isGoal(p, one, two)) {
            return NO_SUCH;
        }
        Graph ways = graphOf(p);
        int end = ways.find(one, two);
        if (end == NONE) {
            return 0;
        }
        int here = board.standOf(p);
        long own = 1L << here / PACK | 1L << here % PACK;
        // A way that never enters a CELL stays a way when that CELL becomes a WALL.
        long open = ways.trailTo(end) & ~own;
        long need = 0;
        stepper.aim(board, p);
        long free = stepper.free;
        for (int c = 0; c < CELLS; c++) {
            if ((open >>> c & 1) == 0) {
                continue;
            }
            stepper.free = free & ~(1L << c);
            walled.build(stepper, here, one, two);
            if (walled.find(one, two) == NONE) {
                need |= 1L << c;
            }
        }
        return need;
    }

    public int errands(int p) {
        if (!board.isPair(p)) {
            return NO_SUCH;
        }
        errand.explore(graphOf(p), board, p);
        return errand.length();
    }

    public int errandWay(int p, int i) {
        if (!board.isPair(p)) {
            return NO_SUCH;
        }
        if (i < 0) {
            return BAD_NUMBER;
        }
        errand.explore(graphOf(p), board, p);
        return told(errand.leadAt(i));
    }

    private boolean isGoal(int p, int one, int two) {
        return board.isPair(p) && isCellOrNone(one) && isCellOrNone(two);
    }

    private boolean isCellOrNone(int c) {
        return c == NONE || board.plan.isCell(c);
    }

    private static int told(int lead) {
        return lead < 0 ? NONE : 10 * (lead / WAYS) + lead % WAYS;
    }

    private Graph graphOf(int p) {
        if (graphPair != p) {
            stepper.aim(board, p);
            graph.build(stepper, board.standOf(p), NOWHERE, NOWHERE);
            forgetWays();
            graphPair = p;
        }
        return graph;
    }

    /** Behind graphOf(), for the same PAIR. */
    private void prepareCheap(int p) {
        if (!cheap.isReady) {
            stepper.aim(board, p);
            cheap.explore(graph, stepper);
        }
    }

    // ---- where one can get

    public long reach(int p, int twin) {
        if (!board.isPair(p) || !isTwin(twin)) {
            return NO_SUCH;
        }
        return graphOf(p).cellsOf(twin);
    }

    public int stands(int p) {
        if (!board.isPair(p)) {
            return NO_SUCH;
        }
        return graphOf(p).size;
    }

    public int farthest(int p, int twin) {
        if (!board.isPair(p) || !isTwin(twin)) {
            return NO_SUCH;
        }
        return graphOf(p).lastCellOf(twin);
    }

    public long round(int p, int c) {
        if (!board.isPair(p) || !board.plan.isCell(c)) {
            return NO_SUCH;
        }
        stepper.aim(board, p);
        return stepper.free & stepper.ring(board.spanOf[p], c);
    }

    public int spans(int p, int n) {
        if (!board.isPair(p)) {
            return NO_SUCH;
        }
        if (n < 0 || n > MAX_SPAN) {
            return BAD_NUMBER;
        }
        stepper.aim(board, p);
        int sum = 0;
        for (int c = 0; c < CELLS; c++) {
            if ((stepper.free >>> c & 1) != 0) {
                sum += Long.bitCount(stepper.free & stepper.ring(n, c));
            }
        }
        return sum;
    }

    private static boolean isTwin(int twin) {
        return twin == 0 || twin == 1;
    }

    // ---- forcing

    public int forces(int p, int c) {
        if (!board.isPair(p) || !board.plan.isCell(c)) {
            return NO_SUCH;
        }
        game.play(graphOf(p), c);
        return game.levelNow();
    }

    public int best(int p, int c) {
        if (!board.isPair(p) || !board.plan.isCell(c)) {
            return NO_SUCH;
        }
        Graph ways = graphOf(p);
        game.play(ways, c);
        return game.firstBest(ways);
    }

    public long power(int p) {
        if (!board.isPair(p)) {
            return NO_SUCH;
        }
        Graph ways = graphOf(p);
        long open = ways.cellsOf(0);
        long forced = 0;
        for (int c = 0; c < CELLS; c++) {
            if ((open >>> c & 1) != 0) {
                game.play(ways, c);
                if (game.levelNow() != NONE) {
                    forced |= 1L << c;
                }
            }
        }
        return forced;
    }

    // ---- tried

    public long tried(int tray, int p) {
        int code = triesRefused(tray, p);
        return code != 0 ? code : cellsTried(tray, p);
    }

    public int many(int tray, int p) {
        int code = triesRefused(tray, p);
        return code != 0 ? code : Long.bitCount(cellsTried(tray, p));
    }

    public int attempt(int tray, int p) {
        int code = triesRefused(tray, p);
        if (code != 0) {
            return code;
        }
        long cells = cellsTried(tray, p);
        int here = board.standOf(p);
        int total = Long.bitCount(cells);
        int choice = NONE;
        int most = -1;
        for (int d = 0; d < WAYS && total > 0; d++) {
            int could = 0;
            for (int c = 0; c < CELLS; c++) {
                if ((cells >>> c & 1) != 0) {
                    int there = stepper.behind(trays[tray], here / PACK, c);
                    could += there >= 0 && stepper.step(there, 0, d) >= 0 ? 1 : 0;
                }
            }
            int lesser = Math.min(could, total - could);
            if (lesser > most) {
                most = lesser;
                choice = d;
            }
        }
        return choice;
    }

    public int moods(int tray, int p) {
        int code = triesRefused(tray, p);
        if (code != 0) {
            return code;
        }
        int here = board.standOf(p);
        stepper.aim(board, p);
        int fit = 0;
        for (int n = 0; n < MOODS; n++) {
            stepper.assume(n);
            if (stepper.behind(trays[tray], here / PACK, here % PACK) >= 0) {
                fit |= 1 << n;
            }
        }
        return fit;
    }

    /** The code by which a call about what was TRIED is refused, 0 if it isn't. */
    private int triesRefused(int tray, int p) {
        if (!isTray(tray) || !board.isPair(p)) {
            return NO_SUCH;
        }
        Tray tries = trays[tray];
        if (tries.isMissing()) {
            return TRAY_MISSING;
        }
        if (tries.size < 1 || tries.size > TRIES) {
            return TOO_MANY;
        }
        for (int i = 0; i < tries.size; i++) {
            long v = tries.at(i);
            if (v < 0 || v / 10 >= WAYS || v % 10 > 1) {
                return BAD_NUMBER;
            }
        }
        return 0;
    }

    private long cellsTried(int tray, int p) {
        int here = board.standOf(p);
        stepper.aim(board, p);
        long first = stepper.free & stepper.ring(board.spanOf[p], here / PACK);
        long fit = 0;
        for (int c = 0; c < CELLS; c++) {
            if ((first >>> c & 1) != 0 && stepper.behind(trays[tray], here / PACK, c) >= 0) {
                fit |= 1L << c;
            }
        }
        return fit;
    }

    // ---- chances

    public long chance(int p, int twin, int c, int n, int what) {
        boolean known = board.isPair(p) && isTwin(twin) && board.plan.isCell(c);
        if (!known || what < 0 || what > 1) {
            return NO_SUCH;
        }
        if (n < 0 || n > LONGEST_CHANCE) {
            return BAD_NUMBER;
        }
        Graph ways = graphOf(p);
        long below = chances(ways, n);
        long above = odds.sumAt(ways, twin == 0 ? c : NONE, twin == 1 ? c : NONE);
        long common = commonDivisor(below, above);
        if (common < 1) {
            return 0;
        }
        return (what == 0 ? above : below) / common;
    }

    public int likeliest(int p, int twin, int n) {
        if (!board.isPair(p) || !isTwin(twin)) {
            return NO_SUCH;
        }
        if (n < 0 || n > LONGEST_CHANCE) {
            return BAD_NUMBER;
        }
        Graph ways = graphOf(p);
        chances(ways, n);
        return odds.greatestOf(ways, twin);
    }

    /** Leaves in the odds how many of so many equally likely cases each stand has: answers of how many. */
    private long chances(Graph ways, int n) {
        long all = 1;
        odds.start();
        for (int i = 0; i < n; i++) {
            odds.goOn(ways, true);
            all *= SHARES;
        }
        return all;
    }

    private static long commonDivisor(long a, long b) {
        long greater = a;
        long lesser = b;
        for (int i = 0; i < 100 && lesser > 0; i++) {
            long rest = greater % lesser;
            greater = lesser;
            lesser = rest;
        }
        return greater;
    }

    // ---- trays, images

    public int numbers(int tray, int sort, int n) {
        if (!isTray(tray) || sort < 0 || sort > 3) {
            return NO_SUCH;
        }
        if (n < 0 || n > PLACES) {
            return BAD_NUMBER;
        }
        trays[tray].become(sort, n);
        return 0;
    }

    public long write(int tray, int i, long v) {
        if (!isTray(tray)) {
            return NO_SUCH;
        }
        if (trays[tray].isMissing()) {
            return TRAY_MISSING;
        }
        if (i < 0 || i >= trays[tray].size) {
            return NO_PLACE;
        }
        return trays[tray].set(i, v);
    }

    public int lists(int tray, int p, int one, int two) {
        if (!isTray(tray) || !isGoal(p, one, two)) {
            return NO_SUCH;
        }
        Tray places = trays[tray];
        if (places.isMissing()) {
            return TRAY_MISSING;
        }
        Graph ways = graphOf(p);
        int end = ways.find(one, two);
        if (end == NONE) {
            return NOT_NOW;
        }
        int listed = Math.min(ways.depthOf(end), places.size);
        for (int i = 0; i < listed; i++) {
            places.set(i, 100L * p + told(ways.leadAt(end, i)));
        }
        return listed;
    }

    public int image(int i) {
        if (i < 0 || i >= IMAGES) {
            return NO_SUCH;
        }
        Board made = images[i];
        if (made == null) {
            made = new Board(board.plan);
            images[i] = made;
        }
        made.copyFrom(board);
        return 0;
    }

    public int restore(int i) {
        if (i < 0 || i >= IMAGES) {
            return NO_SUCH;
        }
        Board made = images[i];
        if (made == null) {
            return NOT_NOW;
        }
        board.copyFrom(made);
        history.forget();
        forgetWays();
        return 0;
    }

    public int count(int what) {
        switch (what) {
            case 0:
                return board.plan.rowCount;
            case 1:
                return board.plan.columnCount;
            case 2:
                return board.plan.pairs;
            case 3:
                return Long.bitCount(board.walls);
            case 4:
                return board.allSpans();
            case 5:
                return board.allDone();
            case 6:
                return history.size;
            case 7:
                return tapeSize;
            case 8:
                return board.plan.lines;
            default:
                return NONE;
        }
    }

    private static boolean isTray(int tray) {
        return tray >= 0 && tray < TRAYS;
    }

    /** What a text tells for good: boards share it, and nothing changes it once it has been read. */
    private static final class Plan {
        final int rowCount;
        final int columnCount;
        final int cellCount;
        final long all;
        int pairs;
        int lines;
        final int[] heights = new int[CELLS];
        final int[] rowOf = new int[CELLS];
        final int[] columnOf = new int[CELLS];
        final int[] errandCells = new int[2 * PAIRS];
        /** The laws, operands ahead of what joins them; null: none. */
        int[] may;
        int[] costs;

        Plan(int rowCount, int columnCount) {
            this.rowCount = Math.max(1, Math.min(SIDE, rowCount));
            this.columnCount = Math.max(1, Math.min(SIDE, columnCount));
            cellCount = this.rowCount * this.columnCount;
            all = (1L << cellCount) - 1;
            for (int c = 0; c < cellCount && c < CELLS; c++) {
                rowOf[c] = c / this.columnCount;
                columnOf[c] = c % this.columnCount;
            }
            Arrays.fill(errandCells, NONE);
        }

        boolean isCell(int c) {
            return c >= 0 && c < cellCount && c < CELLS;
        }

        int apart(int a, int b) {
            if (!isCell(a) || !isCell(b)) {
                return 0;
            }
            return Math.abs(rowOf[a] - rowOf[b]) + Math.abs(columnOf[a] - columnOf[b]);
        }

        /** The CELL in a direction, NONE beyond the rim. */
        int beside(int c, int direction) {
            if (!isCell(c)) {
                return NONE;
            }
            switch (direction) {
                case 0:
                    return rowOf[c] > 0 ? c - columnCount : NONE;
                case 1:
                    return columnOf[c] < columnCount - 1 ? c + 1 : NONE;
                case 2:
                    return rowOf[c] < rowCount - 1 ? c + columnCount : NONE;
                case 3:
                    return columnOf[c] > 0 ? c - 1 : NONE;
                default:
                    return NONE;
            }
        }
    }

    /** All that can be UNDONE, on a plan. Deeds answer below 0 (why not, negated) if they can't be. */
    private static final class Board {
        Plan plan;
        long walls;
        final int[] twins = new int[2 * PAIRS];
        final int[] spanOf = new int[PAIRS];
        final int[] moodOf = new int[PAIRS];
        final int[] doneOf = new int[PAIRS];

        Board(Plan plan) {
            this.plan = plan;
        }

        void copyFrom(Board other) {
            plan = other.plan;
            walls = other.walls;
            System.arraycopy(other.twins, 0, twins, 0, 2 * PAIRS);
            System.arraycopy(other.spanOf, 0, spanOf, 0, PAIRS);
            System.arraycopy(other.moodOf, 0, moodOf, 0, PAIRS);
            System.arraycopy(other.doneOf, 0, doneOf, 0, PAIRS);
        }

        void clearFor(Plan fresh) {
            plan = fresh;
            walls = 0;
            Arrays.fill(twins, 0);
            Arrays.fill(spanOf, 0);
            Arrays.fill(moodOf, 0);
            Arrays.fill(doneOf, 0);
        }

        boolean isPair(int p) {
            return p >= 0 && p < plan.pairs && p < PAIRS;
        }

        boolean isWall(int c) {
            return plan.isCell(c) && (walls >>> c & 1) != 0;
        }

        int twinsAt(int c) {
            int there = 0;
            for (int i = 0; i < 2 * PAIRS; i++) {
                there += isPair(i / 2) && twins[i] == c ? 1 : 0;
            }
            return there;
        }

        int firstPairAt(int c) {
            for (int i = 0; i < 2 * PAIRS; i++) {
                if (isPair(i / 2) && twins[i] == c) {
                    return i / 2;
                }
            }
            return NONE;
        }

        long freeFor(int p) {
            long taken = walls;
            for (int i = 0; i < 2 * PAIRS; i++) {
                if (i / 2 != p && isPair(i / 2)) {
                    taken |= 1L << twins[i];
                }
            }
            return plan.all & ~taken;
        }

        boolean isFreeFor(int p, int c) {
            return plan.isCell(c) && (freeFor(p) >>> c & 1) != 0;
        }

        int standOf(int p) {
            return isPair(p) ? twins[2 * p] * PACK + twins[2 * p + 1] : 0;
        }

        int allSpans() {
            int sum = 0;
            for (int p = 0; p < PAIRS; p++) {
                sum += isPair(p) ? spanOf[p] : 0;
            }
            return sum;
        }

        int allDone() {
            int sum = 0;
            for (int p = 0; p < PAIRS; p++) {
                sum += isPair(p) ? Integer.bitCount(doneOf[p]) : 0;
            }
            return sum;
        }

        int wouldBe(Stepper stepper, int p, int twin, int direction) {
            if (!isPair(p) || twin < 0 || twin > 1 || direction < 0 || direction >= WAYS) {
                return -WHY_NO_SUCH;
            }
            stepper.aim(this, p);
            return stepper.step(standOf(p), twin, direction);
        }

        void go(int p, int there) {
            if (isPair(p)) {
                twins[2 * p] = there / PACK;
                twins[2 * p + 1] = there % PACK;
                settle(p);
            }
        }

        /** Of a PAIR's ERRANDS those become DONE whose TWIN is in its CELL. */
        void settle(int p) {
            for (int twin = 0; twin < 2; twin++) {
                if (isPair(p) && plan.errandCells[2 * p + twin] == twins[2 * p + twin]) {
                    doneOf[p] |= 1 << twin;
                }
            }
        }

        int turnWall(int c) {
            if (!plan.isCell(c)) {
                return -WHY_NO_SUCH;
            }
            if (firstPairAt(c) != NONE) {
                return -WHY_CELL;
            }
            walls ^= 1L << c;
            return isWall(c) ? 1 : 0;
        }

        int place(int p, int one, int two) {
            // A CELL that is none such isn't FREE either: put() tells the first of both.
            if (!isPair(p) || !plan.isCell(one) || !plan.isCell(two)) {
                return -WHY_NO_SUCH;
            }
            if (!isFreeFor(p, one) || !isFreeFor(p, two)) {
                return -WHY_CELL;
            }
            spanOf[p] = plan.apart(one, two);
            doneOf[p] = 0;
            go(p, one * PACK + two);
            return spanOf[p];
        }

        int feel(int p, int n) {
            if (!isPair(p) || n < 0 || n >= MOODS) {
                return -WHY_NO_SUCH;
            }
            int was = moodOf[p];
            moodOf[p] = n;
            return was;
        }

        /** A DEED out of a TRAY: how many STEPS were gone. */
        int act(Stepper stepper, long v) {
            if (v >= 0 && v <= 399) {
                int deed = (int) v;
                int p = deed / 100;
                int there = wouldBe(stepper, p, deed / 10 % 10, deed % 10);
                if (there < 0) {
                    return there;
                }
                int here = standOf(p);
                go(p, there);
                return plan.apart(here / PACK, there / PACK) + plan.apart(here % PACK, there % PACK);
            }
            int answer = -WHY_NO_SUCH;
            if (v >= 1000 && v <= 1099) {
                answer = turnWall((int) v - 1000);
            } else if (v >= 2000 && v <= 2099) {
                answer = feel(((int) v - 2000) / 10, (int) v % 10);
            }
            return Math.min(answer, 0);
        }
    }

    /** Reads a text into a draft; the first FAULT ends it. */
    private static final class Reader {
        static final int END = 0;
        static final int BAD = 1;
        static final int WORD = 2;
        static final int NUMBER = 3;

        static final int FAULT_TOKEN = 1;
        static final int FAULT_STAND = 2;
        static final int FAULT_BOUNDS = 3;
        static final int FAULT_MANY = 4;
        static final int DEEPEST = 6;

        /** The words that are names in laws come first, in the order of the names' numbers. */
        static final String WORDS =
                "pair twin mood from height hop row column field may costs errand or and not ";
        static final int PAIR = 0;
        static final int MOOD = 2;
        static final int ROW = 6;
        static final int FIELD = 8;
        static final int MAY = 9;
        static final int COSTS = 10;
        static final int ERRAND = 11;
        static final int OR = 12;
        static final int AND = 13;
        static final int NOT = 14;
        static final int STRANGE = 15;
        static final String SIGNS = ";:+-*()[]=<>";

        final Board draft;
        int faultKind;
        int faultPlace = NONE;
        private Plan plan;
        private byte[] text = new byte[0];
        private int length;
        private int next;
        /** All TOKENS, END or the first BAD one last. */
        private final int[] kinds = new int[TAPE + 1];
        private final int[] places = new int[TAPE + 1];
        private final int[] values = new int[TAPE + 1];
        private int tokens;
        private int at;
        /** The TOKEN that is looked at: END, BAD, WORD, NUMBER or its sign. */
        private int kind;
        private int place;
        private int value;
        private int taken;
        private final int[] code = new int[TAPE];
        private int codeSize;

        Reader(Plan empty) {
            plan = empty;
            draft = new Board(empty);
        }

        boolean reads(byte[] bytes, int n) {
            text = bytes;
            length = Math.max(0, Math.min(n, bytes.length));
            faultKind = 0;
            faultPlace = NONE;
            splitText();
            at = -1;
            look();
            if (!fieldLine()) {
                return false;
            }
            for (int i = 0; i < TAPE && kind != END; i++) {
                if (!line()) {
                    return false;
                }
            }
            return true;
        }

        // TOKENS

        private void splitText() {
            next = 0;
            tokens = 0;
            int last = WORD;
            for (int i = 0; i <= TAPE && last != END && last != BAD; i++) {
                skipBlanks();
                places[i] = next;
                last = splitToken(i);
                kinds[i] = last;
                tokens = i + 1;
            }
        }

        private void skipBlanks() {
            while (next < length && (signAt(next) == ' ' || signAt(next) == '\n')) {
                next++;
            }
        }

        /** The kind of the TOKEN that begins at 'next', which is behind it then. */
        private int splitToken(int i) {
            int sign = signAt(next);
            if (next >= length) {
                return END;
            }
            if (isLetter(sign)) {
                values[i] = splitWord();
                return WORD;
            }
            if (isDigit(sign)) {
                int first = next;
                values[i] = splitNumber();
                return next > first + 3 ? BAD : NUMBER;
            }
            next++;
            return sign > 0 && SIGNS.indexOf((char) sign) >= 0 ? sign : BAD;
        }

        private int splitNumber() {
            int number = 0;
            while (next < length && isDigit(signAt(next))) {
                // longer ones than three digits are no TOKENS: their value is of no use
                number = (10 * number + signAt(next) - '0') % 1000;
                next++;
            }
            return number;
        }

        private int splitWord() {
            int first = next;
            while (next < length && isLetter(signAt(next))) {
                next++;
            }
            int number = 0;
            int from = first;
            boolean same = true;
            for (int i = 0; i < WORDS.length(); i++) {
                char sign = WORDS.charAt(i);
                if (sign != ' ') {
                    same = same && from < next && signAt(from) == sign;
                    from++;
                } else if (same && from == next) {
                    return number;
                } else {
                    number++;
                    from = first;
                    same = true;
                }
            }
            return STRANGE;
        }

        private int signAt(int i) {
            return i >= 0 && i < length && i < text.length ? text[i] : 0;
        }

        private static boolean isLetter(int sign) {
            return sign >= 'a' && sign <= 'z';
        }

        private static boolean isDigit(int sign) {
            return sign >= '0' && sign <= '9';
        }

        /** Goes on to the next TOKEN; behind the last one there is none to go on to. */
        private void look() {
            if (at + 1 < tokens && at + 1 < kinds.length) {
                at++;
                kind = kinds[at];
                place = places[at];
                value = values[at];
            }
        }

        private boolean isWord(int word) {
            return kind == WORD && value == word;
        }

        // FAULTS

        private boolean refuse(int fault) {
            faultKind = fault;
            faultPlace = place;
            return false;
        }

        private boolean refuseToken() {
            return refuse(kind == BAD ? FAULT_TOKEN : FAULT_STAND);
        }

        private boolean take(int wanted) {
            if (kind != wanted) {
                return refuseToken();
            }
            look();
            return true;
        }

        private boolean takeNumber(int least, int most) {
            if (kind != NUMBER) {
                return refuseToken();
            }
            if (value < least || value > most) {
                return refuse(FAULT_BOUNDS);
            }
            taken = value;
            look();
            return true;
        }

        private boolean takeCell(long allowed) {
            if (kind != NUMBER) {
                return refuseToken();
            }
            if (value >= CELLS || (allowed >>> value & 1) == 0) {
                return refuse(FAULT_BOUNDS);
            }
            taken = value;
            look();
            return true;
        }

        // LINES

        private boolean fieldLine() {
            if (!isWord(FIELD)) {
                return refuseToken();
            }
            look();
            if (!takeNumber(1, SIDE)) {
                return false;
            }
            int rowCount = taken;
            if (!takeNumber(1, SIDE)) {
                return false;
            }
            plan = new Plan(rowCount, taken);
            plan.lines = 1;
            draft.clearFor(plan);
            return take(';');
        }

        private boolean line() {
            if (isWord(ROW) && plan.pairs == 0) {
                return rowLine() && endLine();
            }
            if (isWord(PAIR)) {
                return pairLine() && endLine();
            }
            if (isWord(MAY) || isWord(COSTS)) {
                return lawLine(value == MAY) && endLine();
            }
            return refuseToken();
        }

        private boolean endLine() {
            plan.lines++;
            return take(';');
        }

        private boolean rowLine() {
            look();
            if (!takeNumber(0, plan.rowCount - 1)) {
                return false;
            }
            int first = taken * plan.columnCount;
            for (int i = 0; i < plan.columnCount; i++) {
                if (!takeNumber(0, WALL_HEIGHT)) {
                    return false;
                }
                tell(first + i, taken);
            }
            return true;
        }

        private void tell(int c, int height) {
            if (plan.isCell(c)) {
                boolean isWall = height == WALL_HEIGHT;
                plan.heights[c] = isWall ? 0 : height;
                draft.walls = draft.walls & ~(1L << c) | (isWall ? 1L << c : 0);
            }
        }

        private boolean pairLine() {
            int p = plan.pairs;
            if (p >= PAIRS) {
                return refuse(FAULT_MANY);
            }
            look();
            long free = draft.freeFor(p);
            if (!takeCell(free)) {
                return false;
            }
            int one = taken;
            if (!takeCell(free)) {
                return false;
            }
            int two = taken;
            for (int i = 0; i < TAPE && (isWord(ERRAND) || isWord(MOOD)); i++) {
                if (!flag(p)) {
                    return false;
                }
            }
            plan.pairs = p + 1;
            draft.place(p, one, two);
            return true;
        }

        private boolean flag(int p) {
            boolean isMood = isWord(MOOD);
            look();
            if (isMood) {
                if (!takeNumber(0, MOODS - 1)) {
                    return false;
                }
                draft.moodOf[p] = taken;
                return true;
            }
            if (!takeCell(plan.all)) {
                return false;
            }
            plan.errandCells[2 * p] = taken;
            if (!takeCell(plan.all)) {
                return false;
            }
            plan.errandCells[2 * p + 1] = taken;
            return true;
        }

        private boolean lawLine(boolean isMay) {
            look();
            codeSize = 0;
            if (!take(':') || !(isMay ? truth(0) : sum(0))) {
                return false;
            }
            int[] law = Arrays.copyOf(code, codeSize);
            if (isMay) {
                plan.may = law;
            } else {
                plan.costs = law;
            }
            return true;
        }

        // laws; depth: within how many of not [ ( the TOKEN stands

        private boolean emit(int item) {
            if (codeSize < code.length) {
                code[codeSize] = item;
                codeSize++;
            }
            return true;
        }

        private boolean deeper(int depth) {
            if (depth >= DEEPEST) {
                return refuse(FAULT_MANY);
            }
            look();
            return true;
        }

        private boolean truth(int depth) {
            if (!both(depth)) {
                return false;
            }
            for (int i = 0; i < TAPE && isWord(OR); i++) {
                look();
                if (!both(depth)) {
                    return false;
                }
                emit(Stepper.JOIN + OR);
            }
            return true;
        }

        private boolean both(int depth) {
            if (!unit(depth)) {
                return false;
            }
            for (int i = 0; i < TAPE && isWord(AND); i++) {
                look();
                if (!unit(depth)) {
                    return false;
                }
                emit(Stepper.JOIN + AND);
            }
            return true;
        }

        private boolean unit(int depth) {
            if (isWord(NOT)) {
                return deeper(depth) && unit(depth + 1) && emit(Stepper.JOIN + NOT);
            }
            if (kind == '[') {
                return deeper(depth) && truth(depth + 1) && take(']');
            }
            if (!sum(depth)) {
                return false;
            }
            int sign = kind;
            if (sign != '=' && sign != '<' && sign != '>') {
                return refuseToken();
            }
            look();
            return sum(depth) && emit(Stepper.JOIN + sign);
        }

        private boolean sum(int depth) {
            if (!term(depth)) {
                return false;
            }
            for (int i = 0; i < TAPE && (kind == '+' || kind == '-'); i++) {
                int sign = kind;
                look();
                if (!term(depth)) {
                    return false;
                }
                emit(Stepper.JOIN + sign);
            }
            return true;
        }

        private boolean term(int depth) {
            if (!atom(depth)) {
                return false;
            }
            for (int i = 0; i < TAPE && kind == '*'; i++) {
                look();
                if (!atom(depth)) {
                    return false;
                }
                emit(Stepper.JOIN + '*');
            }
            return true;
        }

        private boolean atom(int depth) {
            if (kind == '(') {
                return deeper(depth) && sum(depth + 1) && take(')');
            }
            if (kind == NUMBER) {
                emit(value);
            } else if (kind == WORD && value < Stepper.NAME_COUNT) {
                emit(Stepper.NAME + value);
            } else {
                return refuseToken();
            }
            look();
            return true;
        }
    }

    /** LEADS of one PAIR at which it is aimed, wherever its TWINS may be. */
    private static final class Stepper {
        /** In laws: below this numbers, from here on names, from JOIN on what joins. */
        static final int NAME = 1000;
        static final int NAME_COUNT = 8;
        static final int JOIN = 2000;
        static final long UTMOST = 1000000;
        static final int DEAREST = 99;
        static final int STACK = 64;

        long free;
        private Plan plan;
        private int span;
        private final int[] names = new int[NAME_COUNT];
        /** CELLS that are so many STEPS from a CELL, for one size of the field. */
        private final long[] rings = new long[(MAX_SPAN + 1) * CELLS];
        private int ringRows;
        private int ringColumns;
        /** What the laws told of a TWIN, from, to: worth something while its age is the present one. */
        private final int[] mayAge = new int[2 * CELLS * CELLS];
        private final int[] mayMemo = new int[2 * CELLS * CELLS];
        private final int[] costAge = new int[2 * CELLS * CELLS];
        private final int[] costMemo = new int[2 * CELLS * CELLS];
        private int age;
        private final long[] stack = new long[STACK];

        Stepper(Plan empty) {
            plan = empty;
        }

        void aim(Board board, int p) {
            if (!board.isPair(p)) {
                return;
            }
            plan = board.plan;
            free = board.freeFor(p);
            span = board.spanOf[p];
            names[0] = p;
            assume(board.moodOf[p]);
            if (ringRows != plan.rowCount || ringColumns != plan.columnCount) {
                drawRings();
            }
        }

        /** From now on as if the PAIR had this MOOD. */
        void assume(int mood) {
            names[2] = mood;
            age++;
        }

        private void drawRings() {
            Arrays.fill(rings, 0);
            ringRows = plan.rowCount;
            ringColumns = plan.columnCount;
            for (int a = 0; a < plan.cellCount && a < CELLS; a++) {
                for (int b = 0; b < plan.cellCount && b < CELLS; b++) {
                    int apart = plan.apart(a, b);
                    if (apart <= MAX_SPAN) {
                        rings[apart * CELLS + a] |= 1L << b;
                    }
                }
            }
        }

        long ring(int steps, int c) {
            if (steps < 0 || steps > MAX_SPAN || c < 0 || c >= CELLS) {
                return 0;
            }
            return rings[steps * CELLS + c];
        }

        /** Where both would be, packed, or why not, negated. */
        int step(int here, int twin, int direction) {
            int from = twin == 0 ? here / PACK : here % PACK;
            int own = twin == 0 ? here % PACK : here / PACK;
            int to = plan.beside(from, direction);
            if (to == NONE || (free >>> to & 1) == 0) {
                return -WHY_CELL;
            }
            if (!mayGo(twin, from, to)) {
                return -WHY_LAW;
            }
            int drawn = drawnTo(1 - twin, own, to);
            if (drawn == NONE) {
                return -WHY_DRAWN;
            }
            return twin == 0 ? to * PACK + drawn : drawn * PACK + to;
        }

        private int drawnTo(int twin, int own, int to) {
            long fit = ring(span, to) & free;
            if ((fit >>> own & 1) != 0) {
                return own;
            }
            for (int far = 1; far <= MAX_SPAN && fit != 0; far++) {
                long like = ring(far, own) & fit;
                fit &= ~like;
                for (int i = 0; i < CELLS && like != 0; i++) {
                    int c = Long.bitCount((like & -like) - 1);
                    if (mayGo(twin, own, c)) {
                        return c;
                    }
                    like &= like - 1;
                }
            }
            return NONE;
        }

        private int memoPlace(int twin, int from, int to) {
            boolean known = plan.isCell(from) && plan.isCell(to) && (twin == 0 || twin == 1);
            return known ? (twin * CELLS + from) * CELLS + to : NONE;
        }

        private boolean mayGo(int twin, int from, int to) {
            int[] law = plan.may;
            int at = memoPlace(twin, from, to);
            if (law == null || at < 0) {
                return true;
            }
            if (mayAge[at] != age) {
                mayAge[at] = age;
                mayMemo[at] = (int) lawTells(law, twin, from, to);
            }
            return mayMemo[at] != 0;
        }

        private int costGo(int twin, int from, int to) {
            int[] law = plan.costs;
            int at = memoPlace(twin, from, to);
            if (law == null || at < 0) {
                return plan.apart(from, to);
            }
            if (costAge[at] != age) {
                costAge[at] = age;
                long told = lawTells(law, twin, from, to);
                costMemo[at] = (int) Math.max(0, Math.min(DEAREST, told));
            }
            return costMemo[at];
        }

        /** What it COSTS to come from one stand to the next by a LEAD. */
        int costOf(int here, int there) {
            int cost = 0;
            if (here / PACK != there / PACK) {
                cost += costGo(0, here / PACK, there / PACK);
            }
            if (here % PACK != there % PACK) {
                cost += costGo(1, here % PACK, there % PACK);
            }
            return cost;
        }

        private long lawTells(int[] law, int twin, int from, int to) {
            if (!plan.isCell(from) || !plan.isCell(to)) {
                return 0;
            }
            int row = plan.rowOf[to];
            int column = plan.columnOf[to];
            names[1] = twin;
            names[3] = plan.heights[from];
            names[4] = plan.heights[to];
            names[5] = Math.abs(plan.rowOf[from] - row) + Math.abs(plan.columnOf[from] - column);
            names[6] = row;
            names[7] = column;
            int top = 0;
            for (int i = 0; i < law.length; i++) {
                int item = law[i];
                if (item == JOIN + Reader.NOT) {
                    if (top > 0) {
                        stack[top - 1] = 1 - stack[top - 1];
                    }
                } else if (item >= JOIN) {
                    if (top > 1) {
                        top--;
                        stack[top - 1] = joined(item - JOIN, stack[top - 1], stack[top]);
                    }
                } else if (top < STACK) {
                    int name = item - NAME;
                    stack[top] = name >= 0 && name < NAME_COUNT ? names[name] : item;
                    top++;
                }
            }
            return top > 0 ? stack[0] : 0;
        }

        private static long joined(int sign, long a, long b) {
            long whole;
            switch (sign) {
                case Reader.OR:
                    return a | b;
                case Reader.AND:
                    return a & b;
                case '=':
                    return a == b ? 1 : 0;
                case '<':
                    return a < b ? 1 : 0;
                case '>':
                    return a > b ? 1 : 0;
                case '+':
                    whole = a + b;
                    break;
                case '-':
                    whole = a - b;
                    break;
                default:
                    whole = a * b;
                    break;
            }
            return whole > UTMOST ? UTMOST : whole < -UTMOST ? -UTMOST : whole;
        }

        /** Where both are behind what was TRIED from there on, packed, or NONE if it can't have been. */
        int behind(Tray tries, int one, int two) {
            int here = one * PACK + two;
            for (int i = 0; i < tries.size; i++) {
                int number = (int) tries.at(i);
                int there = step(here, 0, number / 10);
                boolean could = there >= 0;
                if (could != (number % 10 == 1)) {
                    return NONE;
                }
                here = could ? there : here;
            }
            return here;
        }
    }

    /**
     * All stands that a PAIR can come to, in the order in which the fewest LEADS come to them, of
     * like ones the first by ROWS; stand 0 is where it is now.
     */
    private static final class Graph {
        int size;
        final int[] stand = new int[STATES];
        private final int[] depth = new int[STATES];
        private final int[] parent = new int[STATES];
        private final int[] last = new int[STATES];
        private final int[] next = new int[STATES * LEADS];
        private final int[] numberOf = new int[CELLS * CELLS];

        /** Goes on till it comes to the GOAL; to NOWHERE: till there are no more stands. */
        void build(Stepper stepper, int here, int one, int two) {
            Arrays.fill(numberOf, NONE);
            size = 0;
            add(here, 0, NONE, NONE);
            for (int s = 0; s < size && s < STATES && !fits(s, one, two); s++) {
                for (int lead = 0; lead < LEADS; lead++) {
                    int there = stepper.step(stand[s], lead / WAYS, lead % WAYS);
                    next[s * LEADS + lead] = there < 0 ? NONE : add(there, depth[s] + 1, s, lead);
                }
            }
        }

        /** The number of a stand, a new one if it hasn't any yet. */
        private int add(int there, int leads, int from, int lead) {
            int at = there / PACK * CELLS + there % PACK;
            if (at < 0 || at >= CELLS * CELLS) {
                return NONE;
            }
            if (numberOf[at] == NONE && size < STATES) {
                numberOf[at] = size;
                stand[size] = there;
                depth[size] = leads;
                parent[size] = from;
                last[size] = lead;
                size++;
            }
            return numberOf[at];
        }

        boolean has(int s) {
            return s >= 0 && s < size && s < STATES;
        }

        int nextOf(int s, int lead) {
            return has(s) && lead >= 0 && lead < LEADS ? next[s * LEADS + lead] : NONE;
        }

        boolean fits(int s, int one, int two) {
            return has(s)
                    && (one == NONE || stand[s] / PACK == one)
                    && (two == NONE || stand[s] % PACK == two);
        }

        /** The first stand at a GOAL, which is the one by which one COMES to it SOONEST. */
        int find(int one, int two) {
            for (int s = 0; s < size; s++) {
                if (fits(s, one, two)) {
                    return s;
                }
            }
            return NONE;
        }

        int depthOf(int s) {
            return has(s) ? depth[s] : NONE;
        }

        /** The i-th LEAD on the way to a stand, NONE if it has not so many. */
        int leadAt(int end, int i) {
            if (i < 0 || i >= depthOf(end)) {
                return NONE;
            }
            int s = end;
            for (int k = 0; k < STATES && has(s); k++) {
                if (depth[s] == i + 1) {
                    return last[s];
                }
                s = parent[s];
            }
            return NONE;
        }

        /** CELLS in which somebody is on the way to a stand. */
        long trailTo(int end) {
            long trail = 0;
            int s = end;
            for (int k = 0; k < STATES && has(s); k++) {
                trail |= 1L << stand[s] / PACK | 1L << stand[s] % PACK;
                s = parent[s];
            }
            return trail;
        }

        int cellOf(int s, int twin) {
            if (!has(s)) {
                return NONE;
            }
            return twin == 0 ? stand[s] / PACK : stand[s] % PACK;
        }

        long cellsOf(int twin) {
            long cells = 0;
            for (int s = 0; s < size; s++) {
                cells |= 1L << cellOf(s, twin);
            }
            return cells;
        }

        /** Of the CELLS that a TWIN comes to latest the first. */
        int lastCellOf(int twin) {
            long seen = 0;
            int latest = NONE;
            int leads = -1;
            for (int s = 0; s < size; s++) {
                int c = cellOf(s, twin);
                if ((seen >>> c & 1) == 0) {
                    seen |= 1L << c;
                    if (depth[s] > leads || c < latest) {
                        latest = c;
                        leads = depth[s];
                    }
                }
            }
            return latest;
        }
    }

    /** COMING CHEAPEST: a length is the COST times SCALE, and how many LEADS. */
    private static final class Cheap {
        static final int SCALE = 1024;
        static final int FAR = 1000000000;

        boolean isReady;
        private final int[] length = new int[STATES];
        private final int[] weight = new int[STATES * LEADS];
        private final int[] order = new int[STATES];
        private int settled;
        private final int[] open = new int[STATES];
        private int openSize;
        /** 1: one can still come from this stand to the GOAL by the least length in all. */
        private final int[] good = new int[STATES];

        void explore(Graph ways, Stepper stepper) {
            Arrays.fill(length, FAR);
            length[0] = 0;
            open[0] = 0;
            openSize = 1;
            settled = 0;
            isReady = true;
            for (int i = 0; i < STATES && openSize > 0; i++) {
                int s = takeNearest();
                order[i] = s;
                settled = i + 1;
                for (int lead = 0; lead < LEADS; lead++) {
                    relax(ways, stepper, s, lead);
                }
            }
        }

        private int takeNearest() {
            int at = 0;
            for (int i = 1; i < openSize; i++) {
                if (length[open[i]] < length[open[at]]) {
                    at = i;
                }
            }
            int s = open[at];
            openSize--;
            open[at] = open[openSize];
            return s;
        }

        private void relax(Graph ways, Stepper stepper, int s, int lead) {
            int t = ways.nextOf(s, lead);
            if (!ways.has(t)) {
                return;
            }
            int heavy = stepper.costOf(ways.stand[s], ways.stand[t]) * SCALE + 1;
            weight[s * LEADS + lead] = heavy;
            if (length[s] + heavy < length[t]) {
                if (length[t] == FAR && openSize < STATES) {
                    open[openSize] = t;
                    openSize++;
                }
                length[t] = length[s] + heavy;
            }
        }

        private int lengthTo(Graph ways, int one, int two) {
            for (int i = 0; i < settled; i++) {
                if (ways.fits(order[i], one, two)) {
                    return length[order[i]];
                }
            }
            return FAR;
        }

        int costTo(Graph ways, int one, int two) {
            int shortest = lengthTo(ways, one, two);
            return shortest == FAR ? NONE : shortest / SCALE;
        }

        /** Whether a LEAD goes on along a way of the least length to a good stand. */
        private boolean leadsOn(Graph ways, int s, int lead) {
            int t = ways.nextOf(s, lead);
            return ways.has(t) && good[t] == 1 && length[s] + weight[s * LEADS + lead] == length[t];
        }

        private int firstOn(Graph ways, int s) {
            for (int lead = 0; lead < LEADS; lead++) {
                if (leadsOn(ways, s, lead)) {
                    return lead;
                }
            }
            return NONE;
        }

        private void mark(Graph ways, int one, int two, int shortest) {
            Arrays.fill(good, 0);
            for (int i = settled - 1; i >= 0; i--) {
                int s = order[i];
                boolean isGood = length[s] == shortest
                        ? ways.fits(s, one, two)
                        : length[s] < shortest && firstOn(ways, s) != NONE;
                good[s] = isGood ? 1 : 0;
            }
        }

        int leadTo(Graph ways, int one, int two, int i) {
            int shortest = lengthTo(ways, one, two);
            if (shortest == FAR || i < 0 || i >= shortest % SCALE) {
                return NONE;
            }
            mark(ways, one, two, shortest);
            int s = 0;
            int lead = NONE;
            for (int k = 0; k <= i && k < STATES && ways.has(s); k++) {
                lead = firstOn(ways, s);
                s = ways.nextOf(s, lead);
            }
            return lead;
        }
    }

    /** The fewest LEADS till both ERRANDS are DONE: over stands, and which are DONE. */
    private static final class Errand {
        private final int[] queue = new int[STATES * MARKS];
        private final int[] parent = new int[STATES * MARKS];
        private final int[] last = new int[STATES * MARKS];
        /** NONE: not seen yet. */
        private final int[] depth = new int[STATES * MARKS];
        private int end;

        void explore(Graph ways, Board board, int p) {
            Arrays.fill(depth, NONE);
            end = NONE;
            if (!board.isPair(p)) {
                return;
            }
            int one = board.plan.errandCells[2 * p];
            int two = board.plan.errandCells[2 * p + 1];
            int absent = (one == NONE ? 1 : 0) + (two == NONE ? 2 : 0);
            int size = 1;
            queue[0] = (board.doneOf[p] | absent) & 3;
            depth[queue[0]] = 0;
            for (int i = 0; i < size && i < STATES * MARKS; i++) {
                int node = queue[i];
                if (node % MARKS == MARKS - 1) {
                    end = node;
                    return;
                }
                for (int lead = 0; lead < LEADS; lead++) {
                    int s = ways.nextOf(node / MARKS, lead);
                    if (!ways.has(s)) {
                        continue;
                    }
                    int done = node % MARKS
                            | (ways.cellOf(s, 0) == one ? 1 : 0)
                            | (ways.cellOf(s, 1) == two ? 2 : 0);
                    int to = s * MARKS + done;
                    if (depth[to] == NONE && size < STATES * MARKS) {
                        depth[to] = depth[node] + 1;
                        parent[to] = node;
                        last[to] = lead;
                        queue[size] = to;
                        size++;
                    }
                }
            }
        }

        int length() {
            return end < 0 ? NONE : depth[end];
        }

        int leadAt(int i) {
            if (i < 0 || i >= length()) {
                return NONE;
            }
            int node = end;
            for (int k = 0; k < STATES * MARKS && depth[node] > i + 1; k++) {
                node = parent[node];
            }
            return last[node];
        }
    }

    /** FORCING, over stands and whose turn it is (a node: twice the stand, and the TWIN). */
    private static final class Game {
        boolean isReady;
        private final int[] firstLink = new int[2 * STATES];
        private final int[] nextLink = new int[2 * STATES * WAYS];
        private final int[] linkFrom = new int[2 * STATES * WAYS];
        private int links;
        private final int[] outs = new int[2 * STATES];
        private final int[] left = new int[2 * STATES];
        private final int[] level = new int[2 * STATES];
        private final int[] queue = new int[2 * STATES];

        /** Each node gets the list of the nodes from which one comes to it. */
        private void linkAll(Graph ways) {
            isReady = true;
            Arrays.fill(firstLink, NONE);
            Arrays.fill(outs, 0);
            links = 0;
            for (int s = 0; s < ways.size && s < STATES; s++) {
                for (int lead = 0; lead < LEADS; lead++) {
                    int twin = lead / WAYS;
                    int t = ways.nextOf(s, lead);
                    if (ways.has(t)) {
                        link(2 * s + twin, 2 * t + 1 - twin);
                    }
                }
                for (int twin = 0; twin < 2; twin++) {
                    if (outs[2 * s + twin] == 0) {
                        link(2 * s + twin, 2 * s + 1 - twin);
                    }
                }
            }
        }

        private void link(int from, int to) {
            if (links < nextLink.length) {
                linkFrom[links] = from;
                nextLink[links] = firstLink[to];
                firstLink[to] = links;
                outs[from]++;
                links++;
            }
        }

        /** Gives each node its level: within how many LEADS TWIN 0 FORCES the CELL from there. */
        void play(Graph ways, int c) {
            if (!isReady) {
                linkAll(ways);
            }
            Arrays.fill(level, NONE);
            System.arraycopy(outs, 0, left, 0, 2 * STATES);
            int size = 0;
            for (int node = 0; node < 2 * ways.size && node < 2 * STATES; node++) {
                if (ways.cellOf(node / 2, 0) == c) {
                    level[node] = 0;
                    queue[size] = node;
                    size++;
                }
            }
            for (int i = 0; i < size && i < 2 * STATES; i++) {
                int at = firstLink[queue[i]];
                for (int k = 0; k < linkFrom.length && at != NONE; k++) {
                    int from = linkFrom[at];
                    left[from]--;
                    // TWIN 1 is forced only once all its LEADS are.
                    boolean isForced = level[from] == NONE && (from % 2 == 0 || left[from] == 0);
                    if (isForced && size < queue.length) {
                        level[from] = level[queue[i]] + 1;
                        queue[size] = from;
                        size++;
                    }
                    at = nextLink[at];
                }
            }
        }

        int levelNow() {
            return level[0];
        }

        int firstBest(Graph ways) {
            for (int d = 0; d < WAYS && level[0] > 0; d++) {
                int t = ways.nextOf(0, d);
                if (ways.has(t) && level[2 * t + 1] == level[0] - 1) {
                    return d;
                }
            }
            return NONE;
        }
    }

    /** Numbers for each stand of a graph that go on LEAD by LEAD. */
    private static final class Odds {
        private final long[][] at = new long[2][STATES];
        private int now;
        private final long[] sums = new long[CELLS];

        void start() {
            now = 0;
            Arrays.fill(at[0], 0);
            at[0][0] = 1;
        }

        /** Counting ROWS; or, if shared out, SHARES parts in equal shares to all that can be. */
        void goOn(Graph ways, boolean shared) {
            long[] from = at[now];
            long[] to = at[1 - now];
            Arrays.fill(to, 0);
            for (int s = 0; s < ways.size && s < STATES; s++) {
                if (from[s] != 0) {
                    goOnFrom(ways, s, from[s], shared ? SHARES : 0, to);
                }
            }
            now = 1 - now;
        }

        private static void goOnFrom(Graph ways, int s, long number, long shares, long[] to) {
            int can = 0;
            for (int lead = 0; lead < LEADS; lead++) {
                can += ways.has(ways.nextOf(s, lead)) ? 1 : 0;
            }
            if (can == 0) {
                to[s] += number * shares;
                return;
            }
            long share = shares == 0 ? number : number * (shares / can);
            for (int lead = 0; lead < LEADS; lead++) {
                int t = ways.nextOf(s, lead);
                if (ways.has(t)) {
                    to[t] += share;
                }
            }
        }

        long sumAt(Graph ways, int one, int two) {
            long sum = 0;
            for (int s = 0; s < ways.size && s < STATES; s++) {
                sum += ways.fits(s, one, two) ? at[now][s] : 0;
            }
            return sum;
        }

        /** The first of the CELLS in which a TWIN is most. */
        int greatestOf(Graph ways, int twin) {
            Arrays.fill(sums, 0);
            for (int s = 0; s < ways.size && s < STATES; s++) {
                int c = ways.cellOf(s, twin);
                if (c >= 0 && c < CELLS) {
                    sums[c] += at[now][s];
                }
            }
            int greatest = 0;
            for (int c = 1; c < CELLS; c++) {
                greatest = sums[c] > sums[greatest] ? c : greatest;
            }
            return greatest;
        }
    }

    /** Boards as they were ahead of the latest calls that did some. */
    private static final class History {
        int size;
        private int eldest;
        private final Board[] kept = new Board[KEPT];

        History(Plan empty) {
            for (int i = 0; i < KEPT; i++) {
                kept[i] = new Board(empty);
            }
        }

        void forget() {
            size = 0;
            eldest = 0;
        }

        void keep(Board board) {
            kept[(eldest + size) % KEPT].copyFrom(board);
            if (size < KEPT) {
                size++;
            } else {
                eldest = (eldest + 1) % KEPT;
            }
        }

        void goBack(int n, Board board) {
            if (n >= 1 && n <= size) {
                size -= n;
                board.copyFrom(kept[(eldest + size) % KEPT]);
            }
        }
    }

    /** Numbers of one sort, MISSING till it becomes one. */
    private static final class Tray {
        int size;
        private int sort = NONE;
        private final long[] values = new long[PLACES];

        boolean isMissing() {
            return sort == NONE;
        }

        void become(int newSort, int n) {
            sort = newSort;
            size = Math.max(0, Math.min(PLACES, n));
            Arrays.fill(values, 0);
        }

        long at(int i) {
            return i >= 0 && i < PLACES ? values[i] : 0;
        }

        long set(int i, long v) {
            if (i < 0 || i >= PLACES) {
                return 0;
            }
            values[i] = cut(v);
            return values[i];
        }

        private long cut(long v) {
            if (sort == 0) {
                return (byte) v;
            }
            if (sort == 1) {
                return (short) v;
            }
            return sort == 2 ? (int) v : v;
        }
    }
}
