import java.util.ArrayList;
import java.util.List;

/** Promises 17 to 32: each sentence about coming, getting and forcing that names a bound. */
public final class EdgesOfWays extends Asking {
    static final String TWO = "field 2 3;row 0 0 0 9;pair 0 1 errand 3 4;pair 5 5;";

    /** What is neither a cell of so many nor NONE. */
    static int[] noGoal(int count) {
        return new int[] {-2, count, count + 1, 36, 63, 64, Integer.MIN_VALUE, Integer.MAX_VALUE};
    }

    // ---- 17 to 22

    /** "-2: the PAIR, a CELL" of a GOAL, ahead of -3 and of NONE. */
    static void noSuchGoal() {
        TwinSpan x = with(TWO);
        for (int p : beyond(0, 1)) {
            refusedGoal(x, p, 0, 1);
            refusedGoal(x, p, -1, -1);
        }
        refusedGoal(x, 2, 99, 99);
        for (int c : noGoal(6)) {
            TwinSpan y = with(TWO);
            refusedGoal(y, 0, c, 0);
            refusedGoal(y, 0, 0, c);
            refusedGoal(y, 1, c, -1);
            refusedGoal(y, 1, -1, c);
        }
        refusedGoal(with("field 6 6;pair 0 0;"), 0, 36, 0);
        refusedGoal(new TwinSpan(), 0, 0, 0);
    }

    static void refusedGoal(TwinSpan x, int p, int one, int two) {
        String goal = p + ", " + one + ", " + two;
        due(17, "soonest(" + goal + ")", x.soonest(p, one, two), -2);
        due(19, "cheapest(" + goal + ")", x.cheapest(p, one, two), -2);
        due(22, "needed(" + goal + ")", x.needed(p, one, two), -2);
        for (int i : new int[] {-1, 0, 99}) {
            due(18, "way(" + goal + ", " + i + ")", x.way(p, one, two, i), -2);
            due(20, "cheapWay(" + goal + ", " + i + ")", x.cheapWay(p, one, two, i), -2);
            due(21, "rows(" + goal + ", " + i + ")", x.rows(p, one, two, i), -2);
        }
    }

    /** "A GOAL: a CELL for TWIN 0, one for TWIN 1 (NONE: any)"; 0 LEADS if both are there. */
    static void goalsAtHand() {
        int[][] here = {{0, 1}, {0, -1}, {-1, 1}, {-1, -1}};
        for (int[] goal : here) {
            TwinSpan x = with(TWO);
            String name = goal[0] + ", " + goal[1];
            due(17, "soonest " + name, x.soonest(0, goal[0], goal[1]), 0);
            due(18, "way " + name, x.way(0, goal[0], goal[1], 0), -1);
            due(18, "way " + name, x.way(0, goal[0], goal[1], -1), -3);
            due(19, "cheapest " + name, x.cheapest(0, goal[0], goal[1]), 0);
            due(20, "cheapWay " + name, x.cheapWay(0, goal[0], goal[1], 0), -1);
            due(20, "cheapWay " + name, x.cheapWay(0, goal[0], goal[1], -1), -3);
            due(21, "rows " + name, x.rows(0, goal[0], goal[1], 0), 1);
            due(22, "needed " + name, x.needed(0, goal[0], goal[1]), 0);
        }
    }

    /** "NONE: it can't be": a WALL, another PAIR's CELL, another SPAN. */
    static void goalsThatCantBe() {
        int[][] never = {{2, -1}, {-1, 2}, {5, -1}, {-1, 5}, {0, 0}, {0, 4}, {2, 2}};
        for (int[] goal : never) {
            TwinSpan x = with(TWO);
            String name = goal[0] + ", " + goal[1];
            due(17, "soonest " + name, x.soonest(0, goal[0], goal[1]), -1);
            due(19, "cheapest " + name, x.cheapest(0, goal[0], goal[1]), -1);
            due(22, "needed " + name, x.needed(0, goal[0], goal[1]), 0);
            for (int i : new int[] {0, 1, Integer.MAX_VALUE}) {
                due(18, "way " + name, x.way(0, goal[0], goal[1], i), -1);
                due(20, "cheapWay " + name, x.cheapWay(0, goal[0], goal[1], i), -1);
            }
            for (int i : new int[] {-1, Integer.MIN_VALUE}) {
                due(18, "-3 ahead of NONE", x.way(0, goal[0], goal[1], i), -3);
                due(20, "-3 ahead of NONE", x.cheapWay(0, goal[0], goal[1], i), -3);
            }
            for (int n = 0; n <= 15; n++) {
                due(21, "rows " + name, x.rows(0, goal[0], goal[1], n), 0);
            }
        }
    }

    /** "The i-th LEAD of it. NONE: not so many ... -3: i is below 0." */
    static void places() {
        TwinSpan x = with("field 1 6;pair 0 0;costs:5-twin;");
        due(17, "leads", x.soonest(0, 5, 5), 5);
        due(19, "cost", x.cheapest(0, 5, 5), 45);
        for (int i = 0; i < 5; i++) {
            due(18, "lead " + i, x.way(0, 5, 5, i), 1);
            due(20, "lead " + i, x.cheapWay(0, 5, 5, i), 1);
        }
        for (int i : new int[] {5, 6, 256, Integer.MAX_VALUE}) {
            due(18, "not so many: " + i, x.way(0, 5, 5, i), -1);
            due(20, "not so many: " + i, x.cheapWay(0, 5, 5, i), -1);
        }
        for (int i : new int[] {-1, -2, Integer.MIN_VALUE}) {
            due(18, "below 0: " + i, x.way(0, 5, 5, i), -3);
            due(20, "below 0: " + i, x.cheapWay(0, 5, 5, i), -3);
        }
    }

    /** "How many ROWS of just n LEADS (0 to 15)": of a pair of SPAN 0, each step by either twin. */
    static void longRows() {
        long[] walks = new long[36];
        walks[14] = 1;
        for (int n = 0; n <= 15; n++) {
            TwinSpan x = with("field 6 6;pair 14 14;");
            long all = 0;
            for (int c = 0; c < 36; c++) {
                due(21, "rows to " + c + " of " + n, x.rows(0, c, -1, n), walks[c] << n);
                all += walks[c];
            }
            due(21, "rows of " + n, x.rows(0, -1, -1, n), all << n);
            for (int i : beyond(0, 15)) {
                due(21, "n " + i, x.rows(0, 14, 14, i), -3);
            }
            walks = further(walks);
        }
        TwinSpan still = with("field 1 1;pair 0 0;");
        due(21, "no leads", still.rows(0, 0, 0, 0), 1);
        due(21, "none can be", still.rows(0, 0, 0, 1), 0);
        due(21, "none can be", still.rows(0, -1, -1, 15), 0);
    }

    static long[] further(long[] walks) {
        long[] next = new long[36];
        for (int c = 0; c < 36; c++) {
            next[c] += c >= 6 ? walks[c - 6] : 0;
            next[c] += c < 30 ? walks[c + 6] : 0;
            next[c] += c % 6 > 0 ? walks[c - 1] : 0;
            next[c] += c % 6 < 5 ? walks[c + 1] : 0;
        }
        return next;
    }

    /** "CELLS, where nobody of the PAIR is, no WALLS, each of which ... would leave no COMING to a GOAL, as bits" */
    static void needed() {
        String lane = "field 6 6;row 4 9 9 9 9 9 9;pair 30 30;";
        TwinSpan x = with(lane);
        due(22, "above 31", x.needed(0, 35, 35), cells(31, 32, 33, 34, 35));
        due(22, "any", x.needed(0, 35, -1), cells(31, 32, 33, 34, 35));
        due(22, "the next one", x.needed(0, -1, 31), cells(31));
        due(22, "behind the walls", x.needed(0, 0, 0), 0);
        due(22, "a wall", x.needed(0, 29, -1), 0);
        TwinSpan y = with("field 2 2;pair 0 0;pair 3 3;");
        due(22, "another pair's cell is none of them", y.needed(0, 2, 2), cells(2));
        TwinSpan own = with("field 1 3;pair 1 0;");
        due(22, "their own cells aren't told", own.needed(0, 2, 1), cells(2));
        due(22, "even if they are", own.needed(0, 0, -1), 0);
        due(22, "even if they are", own.needed(0, -1, 1), 0);
        stand(22, "nothing went", own, 0, 1, 0);
        due(22, "no walls", own.count(3), 0);
        due(22, "nothing to undo", own.count(6), 0);
    }

    /** Cells that TWIN 0 alone needs, or TWIN 1 alone; the first cell and the last one. */
    static void neededByOne() {
        String lane = "field 6 6;row 4 9 9 9 9 9 9;";
        TwinSpan one = with(lane + "pair 33 32;");
        due(22, "by twin 0", one.needed(0, 35, -1), cells(34, 35));
        due(22, "their own cells aren't told", one.needed(0, 32, -1), 0);
        due(22, "their own cells aren't told", one.needed(0, -1, 33), 0);
        TwinSpan two = with(lane + "pair 32 33;");
        due(22, "by twin 1", two.needed(0, -1, 35), cells(34, 35));
        TwinSpan low = with("field 1 4;pair 3 2;");
        due(22, "by twin 1", low.needed(0, -1, 0), cells(0, 1));
        TwinSpan first = with("field 1 4;pair 2 3;");
        due(22, "by twin 0", first.needed(0, 0, -1), cells(0, 1));
        TwinSpan pairs = with("field 2 3;pair 0 0;pair 4 4;");
        due(26, "of this pair", pairs.stands(0), 5);
        due(7, "of the other one", pairs.why(1, 0, 1), 0);
        due(22, "of this pair", pairs.needed(0, 2, 2), cells(1, 2));
    }

    // ---- 23, 24

    /** "(0: both are DONE, without one it is DONE). NONE: they can't be; -2." */
    static void errands() {
        TwinSpan x = with("field 1 4;pair 0 1 errand 1 0;pair 3 3;");
        for (int p : beyond(0, 1)) {
            due(23, "pair " + p, x.errands(p), -2);
            for (int i : new int[] {-1, 0, 9}) {
                due(24, "pair " + p, x.errandWay(p, i), -2);
            }
        }
        due(23, "one lead", x.errands(0), 1);
        due(24, "it", x.errandWay(0, 0), 1);
        for (int i : new int[] {1, 2, 1024, Integer.MAX_VALUE}) {
            due(24, "not so many", x.errandWay(0, i), -1);
        }
        for (int i : new int[] {-1, Integer.MIN_VALUE}) {
            due(24, "below 0", x.errandWay(0, i), -3);
            due(24, "below 0, without one", x.errandWay(1, i), -3);
        }
        due(23, "without one", x.errands(1), 0);
        due(24, "without one", x.errandWay(1, 0), -1);
        x.lead(0, 0, 1);
        due(23, "both are done", x.errands(0), 0);
        due(24, "both are done", x.errandWay(0, 0), -1);
        x.lead(0, 1, 1);
        due(23, "done for good", x.errands(0), 0);
        TwinSpan half = with("field 1 4;row 0 0 0 0 9;pair 0 1 errand 0 3;");
        due(23, "the other one can't be", half.errands(0), -1);
        due(24, "the other one can't be", half.errandWay(0, 0), -1);
        due(24, "-3 ahead of NONE", half.errandWay(0, -1), -3);
        half.wall(3);
        due(23, "the wall is gone", half.errands(0), 2);
        due(24, "by twin 1", half.errandWay(0, 0), 11);
        due(24, "by twin 1", half.errandWay(0, 1), 11);
        due(24, "not so many", half.errandWay(0, 2), -1);
    }

    /** Each pair has its own errands; the way can be asked for at once. */
    static void errandsOfEach() {
        String text = "field 3 6;pair 12 12 errand 0 6;pair 14 14 errand 8 2;pair 17 16 errand 4 5;";
        int[] leads = {2, 2, 3};
        int[][] ways = {{0, 0}, {0, 0}, {0, 0, 11}};
        for (int p = 0; p < 3; p++) {
            for (int i = 0; i < leads[p]; i++) {
                due(24, "pair " + p + ", lead " + i, with(text).errandWay(p, i), ways[p][i]);
            }
            due(24, "pair " + p + ", no more", with(text).errandWay(p, leads[p]), -1);
            due(23, "pair " + p, with(text).errands(p), leads[p]);
        }
        TwinSpan x = with(text);
        for (int p = 2; p >= 0; p--) {
            due(24, "pair " + p, x.errandWay(p, 1), 0);
        }
        for (int corner : new int[] {5, 30, 35}) {
            TwinSpan far = with("field 6 6;pair 0 1 errand " + corner + " " + (35 - corner) + ";");
            int n = far.errands(0);
            for (int i = 0; i < n; i++) {
                int lead = far.errandWay(0, 0);
                due(9, "to " + corner, far.lead(0, lead / 10, lead % 10), 2);
                due(23, "to " + corner, far.errands(0), n - 1 - i);
            }
            due(44, "both are done", far.count(5), 2);
        }
    }

    // ---- 25 to 29

    /** "-2: the PAIR, the TWIN."; where nothing can go; as many stands as there can be. */
    static void getting() {
        TwinSpan x = with(TWO);
        for (int p : beyond(0, 1)) {
            due(25, "pair " + p, x.reach(p, 0), -2);
            due(26, "pair " + p, x.stands(p), -2);
            due(27, "pair " + p, x.farthest(p, 0), -2);
        }
        for (int twin : beyond(0, 1)) {
            due(25, "twin " + twin, x.reach(0, twin), -2);
            due(27, "twin " + twin, x.farthest(0, twin), -2);
        }
        TwinSpan still = with("field 6 6;pair 0 35;");
        due(25, "where it is, too", still.reach(0, 0), cells(0));
        due(25, "where it is, too", still.reach(0, 1), cells(35));
        due(26, "as it does, too", still.stands(0), 1);
        due(27, "where it is", still.farthest(0, 0), 0);
        due(27, "where it is", still.farthest(0, 1), 35);
        TwinSpan open = with("field 6 6;pair 0 0;");
        due(25, "all cells", open.reach(0, 1), (1L << 36) - 1);
        due(26, "all cells", open.stands(0), 36);
        due(27, "the corner", open.farthest(0, 0), 35);
        TwinSpan back = with("field 6 6;pair 35 35;");
        due(27, "the first corner", back.farthest(0, 0), 0);
        due(27, "of like ones the first", with("field 1 5;pair 2 2;").farthest(0, 1), 0);
        due(27, "of like ones the first", with("field 3 3;pair 4 4;").farthest(0, 0), 0);
    }

    /** All stands by asking by() of each; none may be left out, however many there are. */
    static void manyStands() {
        int[] partner = {0, 1, 2, 8, 9, 10, 16, 17, 23, 29, 35};
        for (int span = 0; span <= 10; span++) {
            List<Integer> seen = new ArrayList<>();
            List<int[]> next = new ArrayList<>();
            explore("field 6 6;", "", partner[span], seen, next);
            String text = "field 6 6;pair 0 " + partner[span] + ";";
            TwinSpan x = with(text);
            due(6, "span", x.pair(0, 2), span);
            due(26, "stands of span " + span, x.stands(0), seen.size());
            int spans = 0;
            for (int pair = 0; pair < 36 * 36; pair++) {
                spans += apart(pair / 36, pair % 36) == span ? 1 : 0;
            }
            due(29, "spans of " + span, x.spans(0, span), spans);
            for (int i = 0; i < seen.size(); i += 17) {
                wholeWays(text, seen.get(i) / 36, seen.get(i) % 36);
            }
            wholeWays(text, seen.get(seen.size() - 1) / 36, seen.get(seen.size() - 1) % 36);
            allForced(x, text, seen, next);
        }
    }

    /** Fields on which much can be forced, by many leads. */
    static void longGames() {
        String lawful = "may:hop<3 or twin=0;";
        longGame("field 6 6;row 5 9 0 0 0 0 0;", lawful, 34, 16);
        longGame("field 6 6;row 0 0 9 0 0 0 0;", lawful, 18, 27);
        longGame("field 6 6;row 0 0 0 0 0 9 0;row 5 0 9 0 0 0 0;", "may:twin=0 or hop>1;", 7, 11);
        longGame("field 6 6;row 0 8 1 5 7 4 0;row 1 3 1 2 4 1 2;row 2 6 0 1 2 6 2;row 3 9 3 3 8 1 8;row 4 3 7 2 1 5 2;"
            + "row 5 3 2 4 4 4 6;", "may:twin=0 or height>from-2;", 5, 15);
        longGame("field 6 6;row 0 0 0 9 0 0 0;", "may:twin=0 or hop=3 or column<3;", 24, 29);
        longGame("field 6 6;row 0 0 1 2 3 4 5;row 5 5 6 7 8 8 8;", "may:twin=1 or not height<from;", 0, 14);
    }

    static void longGame(String field, String law, int one, int two) {
        List<Integer> seen = new ArrayList<>();
        List<int[]> next = new ArrayList<>();
        explore(field, law, one * 36 + two, seen, next);
        String text = field + "pair " + one + " " + two + ";" + law;
        allForced(with(text), text, seen, next);
        // again and again on one object, from wherever the pair has come to
        TwinSpan x = with(text);
        for (int i = 0; i < 12; i++) {
            int lead = 0;
            while (lead < 7 && x.lead(0, (i + lead) / 4 % 2, (i + lead) % 4) < 0) {
                lead++;
            }
            TwinSpan fresh = with(field + "pair " + x.pair(0, 0) + " " + x.pair(0, 1) + ";" + law);
            due(32, "behind " + i + " leads of " + text, x.power(0), fresh.power(0));
        }
    }

    static void allForced(TwinSpan x, String text, List<Integer> seen, List<int[]> next) {
        long forced = 0;
        for (int c = 0; c < 36; c++) {
            int[][] levels = levels(seen, next, c);
            due(30, text + " cell " + c, x.forces(0, c), levels[0][0]);
            due(31, text + " cell " + c, x.best(0, c), firstBest(levels, next.get(0)));
            forced |= levels[0][0] >= 0 ? 1L << c : 0;
        }
        due(32, text, x.power(0), forced);
    }

    /** Numbers all stands, and tells which one is next by each of eight leads. */
    static void explore(String field, String laws, int start, List<Integer> seen, List<int[]> next) {
        seen.add(start);
        for (int i = 0; i < seen.size(); i++) {
            TwinSpan x = with(field + "pair " + seen.get(i) / 36 + " " + seen.get(i) % 36 + ";" + laws);
            int[] to = new int[8];
            for (int lead = 0; lead < 8; lead++) {
                int one = x.by(0, lead / 4, lead % 4, 0);
                int there = one * 36 + x.by(0, lead / 4, lead % 4, 1);
                if (one >= 0 && !seen.contains(there)) {
                    seen.add(there);
                }
                to[lead] = one >= 0 ? seen.indexOf(there) : -1;
            }
            next.add(to);
        }
    }

    /** Within how many leads TWIN 0 forces a cell, for whose turn it is and each stand, round by round. */
    static int[][] levels(List<Integer> seen, List<int[]> next, int c) {
        int[][] level = new int[2][seen.size()];
        for (int s = 0; s < seen.size(); s++) {
            level[0][s] = seen.get(s) / 36 == c ? 0 : -1;
            level[1][s] = level[0][s];
        }
        boolean more = true;
        for (int round = 1; more; round++) {
            more = false;
            for (int k = 0; k < 2 * seen.size(); k++) {
                int[] own = level[k % 2];
                int[] other = level[1 - k % 2];
                if (own[k / 2] < 0 && isForced(k % 2, k / 2, next.get(k / 2), other, round - 1)) {
                    own[k / 2] = round;
                    more = true;
                }
            }
        }
        return level;
    }

    static boolean isForced(int twin, int s, int[] next, int[] other, int within) {
        boolean none = true;
        boolean any = false;
        boolean all = true;
        for (int lead = 4 * twin; lead < 4 * twin + 4; lead++) {
            if (next[lead] >= 0) {
                boolean good = other[next[lead]] >= 0 && other[next[lead]] <= within;
                none = false;
                any |= good;
                all &= good;
            }
        }
        if (none) {
            return other[s] >= 0 && other[s] <= within;
        }
        return twin == 0 ? any : all;
    }

    static int firstBest(int[][] levels, int[] next) {
        for (int way = 0; way < 4; way++) {
            if (levels[0][0] > 0 && next[way] >= 0 && levels[1][next[way]] == levels[0][0] - 1) {
                return way;
            }
        }
        return -1;
    }

    /** A way brings both where they have to be, by as many leads, at such a cost as told. */
    static void wholeWays(String text, int one, int two) {
        String name = text + " to " + one + ", " + two;
        TwinSpan x = with(text);
        TwinSpan soon = with(text);
        int leads = 0;
        for (int lead = x.way(0, one, two, 0); lead >= 0 && leads < 50; lead = x.way(0, one, two, leads)) {
            soon.lead(0, lead / 10, lead % 10);
            leads++;
        }
        stand(18, name, soon, 0, one, two);
        due(17, name, x.soonest(0, one, two), leads);
        TwinSpan cheap = with(text);
        int cost = 0;
        int steps = 0;
        for (int lead = x.cheapWay(0, one, two, 0); lead >= 0 && steps < 50; lead = x.cheapWay(0, one, two, steps)) {
            cost += cheap.lead(0, lead / 10, lead % 10);
            steps++;
        }
        stand(20, name, cheap, 0, one, two);
        due(19, name, x.cheapest(0, one, two), cost);
        due(19, name + ": no dearer", cost <= costOf(text, x, one, two) ? 1 : 0, 1);
    }

    /** What the soonest way costs. */
    static int costOf(String text, TwinSpan x, int one, int two) {
        TwinSpan y = with(text);
        int cost = 0;
        for (int i = 0; i < x.soonest(0, one, two); i++) {
            int lead = x.way(0, one, two, i);
            cost += y.lead(0, lead / 10, lead % 10);
        }
        return cost;
    }

    /** "that of the fewest LEADS of like ones, then the first by ROWS", where steps cost all sorts of things. */
    static void dearFields() {
        String field = "field 4 5;row 0 0 8 1 0 3;row 1 2 0 9 7 0;row 2 1 1 0 8 0;row 3 0 5 0 9 0;";
        String[] laws = {"costs:height*hop;", "costs:0;", "costs:1;", "costs:99*twin-height*9;", "may:hop<5;costs:30*(height-from)+hop;",
            "costs:height*height*height;", "may:not height=8;costs:row+column*2;"};
        for (String law : laws) {
            for (int start : new int[] {0, 1, 5 * 36 + 8, 36 + 10}) {
                dearField(field, law, start);
            }
        }
        String wide = "field 6 6;row 0 0 8 1 0 3 1;row 1 2 0 4 7 0 6;row 2 1 1 0 8 0 5;row 3 0 5 0 2 0 0;row 4 7 1 8 0 3 0;row 5 0 0 6 1 8 2;";
        for (int two : new int[] {2, 8, 10, 16, 17}) {
            dearField(wide, "costs:height*height+twin;", two);
            dearField(wide, "costs:(8-height)*hop;", 7 * 36 + two + 7);
        }
    }

    static void dearField(String field, String law, int start) {
        List<Integer> seen = new ArrayList<>();
        List<int[]> next = new ArrayList<>();
        explore(field, law, start, seen, next);
        int[][] price = prices(field, law, seen, next);
        TwinSpan x = with(field + "pair " + start / 36 + " " + start % 36 + ";" + law);
        for (int i = 0; i < seen.size(); i += 1 + seen.size() / 25) {
            cheapTo(x, law, seen.get(i), i, next, price);
        }
    }

    static int[][] prices(String field, String law, List<Integer> seen, List<int[]> next) {
        int[][] price = new int[seen.size()][8];
        for (int s = 0; s < seen.size(); s++) {
            TwinSpan x = with(field + "pair " + seen.get(s) / 36 + " " + seen.get(s) % 36 + ";" + law);
            for (int lead = 0; lead < 8; lead++) {
                price[s][lead] = next.get(s)[lead] >= 0 ? x.by(0, lead / 4, lead % 4, 3) : 0;
            }
        }
        return price;
    }

    /** From each stand how much is still to be paid till the goal, times 1000, and by how many leads. */
    static void cheapTo(TwinSpan x, String law, int stand, int goal, List<int[]> next, int[][] price) {
        int[] togo = new int[next.size()];
        java.util.Arrays.fill(togo, Integer.MAX_VALUE / 2);
        togo[goal] = 0;
        boolean more = true;
        while (more) {
            more = false;
            for (int k = 0; k < 8 * next.size(); k++) {
                int to = next.get(k / 8)[k % 8];
                if (to >= 0 && togo[to] + 1000 * price[k / 8][k % 8] + 1 < togo[k / 8]) {
                    togo[k / 8] = togo[to] + 1000 * price[k / 8][k % 8] + 1;
                    more = true;
                }
            }
        }
        String name = law + " to " + stand / 36 + ", " + stand % 36;
        due(19, name, x.cheapest(0, stand / 36, stand % 36), togo[0] / 1000);
        int s = 0;
        int i = 0;
        while (s != goal && i < 5) {
            int lead = 0;
            while (next.get(s)[lead] < 0 || togo[next.get(s)[lead]] + 1000 * price[s][lead] + 1 != togo[s]) {
                lead++;
            }
            due(20, name + ", lead " + i, x.cheapWay(0, stand / 36, stand % 36, i), lead / 4 * 10 + lead % 4);
            s = next.get(s)[lead];
            i++;
        }
        due(20, name + ", no more", x.cheapWay(0, stand / 36, stand % 36, togo[0] % 1000), -1);
    }

    static int apart(int a, int b) {
        return Math.abs(a / 6 - b / 6) + Math.abs(a % 6 - b % 6);
    }

    /** "FREE CELLS just the SPAN from a CELL, as bits. -2." */
    static void rounds() {
        TwinSpan x = with("field 6 6;row 5 0 0 0 0 0 9;pair 34 29;pair 0 0;");
        for (int p : beyond(0, 1)) {
            due(28, "pair " + p, x.round(p, 0), -2);
        }
        for (int c : beyond(0, 35)) {
            due(28, "cell " + c, x.round(0, c), -2);
        }
        due(28, "round a wall", x.round(0, 35), cells(23, 28, 33));
        due(28, "round another pair", x.round(0, 0), cells(2, 7, 12));
        due(28, "not where another pair is", x.round(0, 1), cells(3, 6 + 2, 6, 13));
        due(28, "span 0", x.round(1, 33), cells(33));
        due(28, "span 0, a wall", x.round(1, 35), 0);
        due(28, "span 0, another pair", x.round(1, 34), 0);
        x.put(1, 0, 32);
        due(28, "as far as it was put", x.round(1, 0), cells(17, 22, 27, 32));
        due(28, "span 10", with("field 6 6;pair 0 35;").round(0, 5), cells(30));
        due(28, "span 10", with("field 6 6;pair 0 35;").round(0, 14), 0);
    }

    /** "are just n STEPS apart (0 to 10). -2; -3." */
    static void spans() {
        TwinSpan x = with("field 1 1;pair 0 0;");
        for (int p : beyond(0, 0)) {
            due(29, "pair " + p, x.spans(p, 0), -2);
            due(29, "pair ahead of n", x.spans(p, 11), -2);
        }
        for (int n : beyond(0, 10)) {
            due(29, "n " + n, x.spans(0, n), -3);
        }
        for (int n = 0; n <= 10; n++) {
            due(29, "one cell, " + n, x.spans(0, n), n == 0 ? 1 : 0);
        }
        TwinSpan y = with("field 1 6;row 0 0 9 0 0 0 0;pair 3 3;pair 5 5;");
        for (int n = 0; n <= 10; n++) {
            due(29, "free for pair 0, " + n, y.spans(0, n), apartInLane(n));
        }
    }

    /** How many of the cells 0, 2, 3, 4 are so far apart, in either order. */
    static int apartInLane(int n) {
        int[] free = {0, 2, 3, 4};
        int sum = 0;
        for (int a : free) {
            for (int b : free) {
                sum += Math.abs(a - b) == n ? 1 : 0;
            }
        }
        return sum;
    }

    // ---- 30 to 32

    /** "(0: it is there). NONE: never; -2." "NONE: it doesn't, it is there, it can LEAD in none; -2." */
    static void forcing() {
        TwinSpan x = with(TWO);
        for (int p : beyond(0, 1)) {
            due(30, "pair " + p, x.forces(p, 0), -2);
            due(31, "pair " + p, x.best(p, 0), -2);
            due(32, "pair " + p, x.power(p), -2);
        }
        for (int c : beyond(0, 5)) {
            due(30, "cell " + c, x.forces(0, c), -2);
            due(31, "cell " + c, x.best(0, c), -2);
        }
        due(30, "it is there", x.forces(0, 0), 0);
        due(31, "it is there", x.best(0, 0), -1);
        due(30, "a wall", x.forces(0, 2), -1);
        due(31, "a wall", x.best(0, 2), -1);
        due(30, "another pair", x.forces(0, 5), -1);
        TwinSpan still = with("field 6 6;pair 35 0;");
        due(32, "where it is", still.power(0), cells(35));
        for (int c = 0; c < 36; c++) {
            due(30, "never " + c, still.forces(0, c), c == 35 ? 0 : -1);
            due(31, "never " + c, still.best(0, c), -1);
        }
        TwinSpan near = with("field 1 4;pair 1 1;");
        due(30, "one lead", near.forces(0, 0), 1);
        due(31, "to the left", near.best(0, 0), 3);
        due(30, "one lead", near.forces(0, 2), 1);
        due(31, "to the right", near.best(0, 2), 1);
        due(30, "twin 1 leads away", near.forces(0, 3), -1);
        due(31, "twin 1 leads away", near.best(0, 3), -1);
        due(32, "power", near.power(0), cells(0, 1, 2));
        // TWIN 0 may only climb, TWIN 1 can lead to the right alone and draws it higher
        TwinSpan climbing = with("field 1 6;row 0 0 1 2 3 4 5;pair 1 0;may:twin=1 or height>from;");
        for (int c = 0; c < 6; c++) {
            due(30, "leads of both count", climbing.forces(0, c), c - 1);
            due(31, "to the right", climbing.best(0, c), c > 1 ? 1 : -1);
        }
        due(32, "all above it", climbing.power(0), cells(1, 2, 3, 4, 5));
    }

    /** "(if it can in none, it stays, which counts as a LEAD here)" */
    static void staying() {
        // TWIN 0 goes up, TWIN 1 is drawn to cell 3 between walls and stays, TWIN 0 goes up again, TWIN 1 has to follow
        TwinSpan x = with("field 3 3;row 0 9 9 0;row 1 0 9 0;row 2 9 9 0;pair 8 2;");
        due(30, "at once", x.forces(0, 5), 1);
        due(30, "behind a stay", x.forces(0, 2), 3);
        due(30, "drawn by twin 1", x.forces(0, 3), 4);
        due(31, "up", x.best(0, 2), 0);
        due(31, "up", x.best(0, 3), 0);
        due(32, "power", x.power(0), cells(2, 3, 5, 8));
        x.lead(0, 0, 0);
        stand(30, "between walls", x, 0, 5, 3);
        for (int way = 0; way < 4; way++) {
            due(7, "between walls", x.why(0, 1, way), 2);
        }
        // TWIN 0 between walls: it stays, TWIN 1 draws it to one end, it goes to the middle, TWIN 1 stays, it goes on
        TwinSpan y = with("field 3 3;row 0 9 9 0;row 1 0 9 0;row 2 9 9 0;pair 3 5;");
        due(30, "to either end", y.forces(0, 2), 5);
        due(30, "to either end", y.forces(0, 8), 5);
        due(30, "the middle", y.forces(0, 5), 3);
        due(31, "it can lead in none", y.best(0, 2), -1);
        due(31, "it can lead in none", y.best(0, 5), -1);
        due(32, "power", y.power(0), cells(2, 3, 5, 8));
        y.wall(2);
        due(30, "nobody can lead", y.forces(0, 8), -1);
        due(31, "nobody can lead", y.best(0, 8), -1);
        due(32, "where it is", y.power(0), cells(3));
    }

    // ---- what was asked before a change must not be told behind it

    static final String CHANGING = "field 3 3;row 0 0 1 2;row 2 3 0 0;pair 0 1 errand 8 7 mood 1;pair 6 6;may:mood>0 or hop=1;costs:mood+height;";

    /** Of all pairs but one, and of that one last; or of that one first. */
    static void askAll(TwinSpan x, List<Long> seen, boolean isFirst) {
        int pairs = x.count(2);
        for (int i = 0; i < pairs; i++) {
            int p = isFirst ? pairs - 1 - i : i;
            int last = x.count(0) * x.count(1) - 1;
            long[] answers = {x.stands(p), x.reach(p, 0), x.reach(p, 1), x.farthest(p, 0), x.soonest(p, last, -1),
                x.way(p, last, -1, 0), x.cheapest(p, last, -1), x.cheapWay(p, last, -1, 0), x.rows(p, -1, -1, 4),
                x.needed(p, last, -1), x.errands(p), x.errandWay(p, 0), x.forces(p, last), x.best(p, last), x.power(p),
                x.chance(p, 0, last, 3, 0), x.chance(p, 0, last, 3, 1), x.likeliest(p, 1, 2), x.round(p, 4), x.spans(p, 2),
                x.why(p, 0, 1), x.by(p, 0, 1, 3), x.tried(0, p), x.attempt(0, p), x.moods(0, p)};
            for (long answer : answers) {
                seen.add(answer);
            }
        }
    }

    /** Whether all has been asked ahead of a change or not, the same is told behind it. */
    static void changed(int promise, String what, Calls ahead, Calls change) {
        List<Long> asked = new ArrayList<>();
        List<Long> got = new ArrayList<>();
        List<Long> want = new ArrayList<>();
        TwinSpan x = with(CHANGING);
        tray(x, 0, 0, 11);
        ahead.on(x);
        askAll(x, asked, false);
        change.on(x);
        askAll(x, got, true);
        TwinSpan y = with(CHANGING);
        tray(y, 0, 0, 11);
        ahead.on(y);
        change.on(y);
        askAll(y, want, true);
        due(promise, what + ": answers", got.size(), want.size());
        for (int i = 0; i < got.size() && i < want.size(); i++) {
            due(promise, what + ": answer " + i, got.get(i), want.get(i));
        }
    }

    static void changes() {
        Calls none = x -> { };
        changed(9, "a lead", none, x -> x.lead(0, 0, 1));
        changed(10, "a wall", none, x -> x.wall(5));
        changed(11, "a put", none, x -> x.put(0, 4, 5));
        changed(11, "another pair's put", none, x -> x.put(1, 4, 5));
        changed(12, "a mood", none, x -> x.mood(0, 0));
        changed(13, "undoing", x -> x.put(0, 4, 8), x -> x.undo(1));
        changed(15, "a tray", x -> tray(x, 1, 1, 1005, 11), x -> x.perform(1));
        changed(16, "a day", none, x -> x.day(5, 40));
        changed(3, "another field", none, x -> tell(x, "field 2 4;pair 0 5;pair 1 1;"));
        changed(3, "another law", none, x -> tell(x, CHANGING + "may:1=1;costs:column;"));
        changed(43, "an image", x -> {
            x.image(1);
            x.put(0, 4, 8);
            x.wall(2);
        }, x -> x.restore(1));
    }

    /** "An object is used for at most 512 calls": the last one answers as the first one did. */
    static void manyCalls() {
        TwinSpan x = with("field 6 6;pair 14 20;pair 0 0;may:hop<5;costs:hop*row;");
        long power = x.power(0);
        long needed = x.needed(0, 35, -1);
        int cheapest = x.cheapest(0, 35, -1);
        int calls = 7;
        for (int i = 0; calls + 9 <= 512; i++) {
            due(12, "a mood", x.mood(0, 1 + i % 9), i == 0 ? 0 : 1 + (i - 1) % 9);
            x.power(1);
            due(32, "call " + calls, x.power(0), power);
            x.needed(1, 35, -1);
            due(22, "call " + calls, x.needed(0, 35, -1), needed);
            due(19, "call " + calls, x.cheapest(0, 35, -1), cheapest);
            x.image(i % 2);
            x.day(i, 1);
            x.restore(i % 2);
            calls += 9;
        }
        TwinSpan texts = new TwinSpan();
        for (calls = 0; calls + 3 <= 512; calls += 3) {
            due(2, "call " + calls, texts.feed(0x6669656c, 0x64203620, 0x363b6d61, 0x793a313d, 0x313b2020), 20);
            due(3, "call " + calls, texts.field(18), 2);
            due(44, "call " + calls, texts.count(0), 6);
        }
    }

    /** What only asks changes nothing. */
    static void looks() {
        unchanged(17, x -> {
            for (int c = -2; c < 7; c++) {
                for (int p = 0; p < 3; p++) {
                    x.soonest(p, c, -1);
                    x.way(p, c, -1, 0);
                    x.cheapest(p, -1, c);
                    x.cheapWay(p, -1, c, 0);
                    x.needed(p, c, -1);
                }
            }
        });
        unchanged(25, x -> {
            for (int p = -1; p < 3; p++) {
                for (int i = -1; i < 7; i++) {
                    x.reach(p, i);
                    x.farthest(p, i);
                    x.round(p, i);
                    x.spans(p, i);
                }
                x.stands(p);
            }
        });
        unchanged(30, x -> {
            for (int p = -1; p < 3; p++) {
                for (int i = -1; i < 7; i++) {
                    x.forces(p, i);
                    x.best(p, i);
                    x.errandWay(p, i);
                }
                x.power(p);
                x.errands(p);
                x.rows(p, -1, -1, 15);
            }
        });
    }

    public static void main(String[] args) {
        noSuchGoal();
        goalsAtHand();
        goalsThatCantBe();
        places();
        longRows();
        needed();
        neededByOne();
        errands();
        errandsOfEach();
        getting();
        manyStands();
        longGames();
        dearFields();
        rounds();
        spans();
        forcing();
        staying();
        changes();
        manyCalls();
        looks();
        end();
    }
}
