/** Promises 5 to 16, and Terms, part 2: each sentence about looking and doing that names a bound. */
public final class EdgesOfDeeds extends Asking {
    static final String MILLION = "500*500*4";

    // ---- 5, 6

    /** "Of a CELL, what 0: HEIGHT (9: a WALL), 1: how many TWINS are there, 2: the first PAIR of these (NONE). -2." */
    static void cellCalls() {
        TwinSpan x = with("field 2 3;row 0 8 9 0;pair 5 5;pair 0 2;");
        for (int c : beyond(0, 5)) {
            for (int what = -1; what <= 3; what++) {
                due(5, "cell " + c, x.cell(c, what), -2);
            }
        }
        for (int what : beyond(0, 2)) {
            due(5, "what " + what, x.cell(0, what), -2);
        }
        long[][] all = {{8, 1, 1}, {9, 0, -1}, {0, 1, 1}, {0, 0, -1}, {0, 0, -1}, {0, 2, 0}};
        for (int c = 0; c < 6; c++) {
            for (int what = 0; what < 3; what++) {
                due(5, "cell " + c + " " + what, x.cell(c, what), all[c][what]);
            }
        }
    }

    /** "Of a PAIR, what 0, 1: ... 6 ... -2." */
    static void pairCalls() {
        TwinSpan x = with("field 6 6;pair 0 35 errand 35 0 mood 9;pair 1 1 errand 1 1;pair 30 2;");
        for (int p : beyond(0, 2)) {
            for (int what = -1; what <= 7; what++) {
                due(6, "pair " + p, x.pair(p, what), -2);
            }
        }
        for (int what : beyond(0, 6)) {
            due(6, "what " + what, x.pair(2, what), -2);
        }
        long[][] all = {{0, 35, 10, 9, 35, 0, 0}, {1, 1, 0, 0, 1, 1, 3}, {30, 2, 7, 0, -1, -1, 0}};
        for (int p = 0; p < 3; p++) {
            for (int what = 0; what < 7; what++) {
                due(6, "pair " + p + " " + what, x.pair(p, what), all[p][what]);
            }
        }
        due(6, "fewer pairs", with(LANE).pair(1, 0), -2);
    }

    // ---- 7 to 9

    /** "1 no such PAIR, TWIN, direction": why, by, lead alike. */
    static void noSuchLead() {
        for (int p : beyond(0, 0)) {
            refusedLead(with(LANE), p, 0, 1, 1);
            refusedLead(with(LANE), p, 5, 9, 1);
        }
        for (int twin : beyond(0, 1)) {
            refusedLead(with(LANE), 0, twin, 1, 1);
        }
        for (int way : beyond(0, 3)) {
            refusedLead(with(LANE), 0, 0, way, 1);
        }
        TwinSpan three = with("field 1 6;pair 0 0;pair 2 2;pair 4 4;");
        due(7, "the third pair", three.why(2, 0, 1), 0);
        refusedLead(three, 3, 0, 1, 1);
        refusedLead(new TwinSpan(), 0, 0, 0, 1);
    }

    static void refusedLead(TwinSpan x, int p, int twin, int way, int why) {
        String lead = p + ", " + twin + ", " + way;
        due(7, "why(" + lead + ")", x.why(p, twin, way), why);
        for (int what = 0; what <= 3; what++) {
            due(8, "by(" + lead + ", " + what + ")", x.by(p, twin, way, what), -5);
        }
        due(8, "by(" + lead + ", -1)", x.by(p, twin, way, -1), -2);
        due(8, "by(" + lead + ", 4)", x.by(p, twin, way, 4), -2);
        int calls = x.count(6);
        due(9, "lead(" + lead + ")", x.lead(p, twin, way), -10 - why);
        due(9, "nothing to undo by lead(" + lead + ")", x.count(6), calls);
    }

    /** "0: the row above, 1: the column to the right, 2: the row below, 3: the column to the left": at every rim. */
    static void rims() {
        for (int[] size : new int[][] {{1, 1}, {1, 3}, {3, 1}, {2, 3}, {3, 3}, {6, 6}}) {
            int columns = size[1];
            for (int c = 0; c < size[0] * columns; c++) {
                TwinSpan x = with("field " + size[0] + " " + columns + ";pair " + c + " " + c + ";");
                int[] to = {c - columns, c + 1, c + columns, c - 1};
                boolean[] open = {c / columns > 0, c % columns < columns - 1, c / columns < size[0] - 1, c % columns > 0};
                for (int way = 0; way < 4; way++) {
                    due(7, "from " + c + " by " + way, x.why(0, 0, way), open[way] ? 0 : 2);
                    due(8, "from " + c + " by " + way, x.by(0, 1, way, 0), open[way] ? to[way] : -5);
                }
            }
        }
    }

    /** "2 the CELL isn't FREE, there is none" */
    static void notFree() {
        TwinSpan x = with("field 3 3;row 1 0 9 0;pair 3 3;pair 0 6;pair 7 5;");
        refusedLead(x, 0, 0, 1, 2);
        refusedLead(x, 0, 0, 0, 2);
        refusedLead(x, 0, 1, 2, 2);
        refusedLead(x, 0, 0, 3, 2);
        refusedLead(x, 1, 1, 1, 2);
        refusedLead(x, 1, 0, 2, 2);
        due(7, "the wall is gone", x.wall(4) + x.why(0, 0, 1), 0);
        TwinSpan own = with("field 1 3;pair 0 1;");
        due(7, "its own twin's cell", own.why(0, 0, 1), 0);
        stand(7, "nothing went", own, 0, 0, 1);
    }

    /** "3 the law may, for the one that LEADS. 4 the other one can't be DRAWN": which of several comes first. */
    static void whichReason() {
        String never = "may:1=2;";
        refusedLead(with("field 1 3;row 0 0 9 0;pair 0 2;" + never), 0, 0, 1, 2);
        refusedLead(with("field 1 3;row 0 0 9 0;pair 0 2;" + never), 0, 0, 0, 2);
        refusedLead(with("field 1 3;pair 0 2;" + never), 0, 0, 1, 3);
        refusedLead(with("field 1 3;pair 0 2;"), 0, 0, 1, 4);
        refusedLead(with("field 1 3;pair 0 1;may:twin=0;"), 0, 1, 1, 3);
        refusedLead(with("field 1 3;pair 0 1;may:twin=0;"), 0, 0, 1, 4);
        // the only cell that fits is a wall, has another pair in it, or is forbidden by the law
        refusedLead(with("field 2 2;row 1 9 0;pair 0 3;"), 0, 0, 1, 4);
        refusedLead(with("field 2 2;pair 0 3;pair 2 2;"), 0, 0, 1, 4);
        refusedLead(with("field 2 2;pair 0 3;may:not [twin=1 and column=0];"), 0, 0, 1, 4);
        due(7, "it fits", with("field 2 2;pair 0 3;").why(0, 0, 1), 0);
        refusedLead(with("field 6 6;pair 0 35;"), 0, 0, 1, 4);
        refusedLead(with("field 6 6;pair 0 35;"), 0, 1, 0, 4);
    }

    /** "-2: what; -5: it can't LEAD so (for whatever reason)." */
    static void whatOfBy() {
        TwinSpan x = with("field 2 2;pair 0 3;costs:7*hop;");
        long[] due = {1, 2, 1, 14};
        for (int what = 0; what < 4; what++) {
            due(8, "what " + what, x.by(0, 0, 1, what), due[what]);
        }
        for (int what : beyond(0, 3)) {
            due(8, "what " + what, x.by(0, 0, 1, what), -2);
            due(8, "ahead of -5", x.by(-1, 0, 1, what), -2);
        }
        stand(8, "nothing went", x, 0, 0, 3);
        due(8, "no call that did some", x.count(6), 0);
    }

    /** "it goes to the one that is fewest STEPS from its own place, the law may holding for it, of like ones the first" */
    static void drawn() {
        drawnBy(0, "field 5 5;pair 12 2;");
        drawnBy(1, "field 5 5;pair 2 12;");
    }

    /** A TWIN goes from the middle to the left, the other one is two steps above it: seven cells fit. */
    static void drawnBy(int twin, String field) {
        int[] order = {1, 7, 5, 13, 17, 15, 21};
        String law = "";
        for (int i = 0; i < order.length; i++) {
            TwinSpan walled = with(field);
            for (int k = 0; k < i; k++) {
                walled.wall(order[k]);
            }
            int hop = order[i] / 5 + Math.abs(order[i] % 5 - 2);
            TwinSpan lawful = with(field + "may:1=1" + law + ";");
            for (TwinSpan x : new TwinSpan[] {walled, lawful}) {
                due(8, "the leader", x.by(0, twin, 3, twin), 11);
                due(8, "without " + i, x.by(0, twin, 3, 1 - twin), order[i]);
                due(8, "its hop", x.by(0, twin, 3, 2), hop);
                due(8, "both go", x.by(0, twin, 3, 3), 1 + hop);
            }
            law += " and not [twin=" + (1 - twin) + " and row=" + order[i] / 5 + " and column=" + order[i] % 5 + "]";
        }
        due(7, "none is left", with(field + "may:1=1" + law + ";").why(0, twin, 3), 4);
    }

    // ---- Terms, part 2: laws

    /** "each + - * is kept from -1,000,000 to 1,000,000" */
    static void keptNumbers() {
        String most = MILLION;
        String least = "0-" + MILLION;
        String[] hold = {
            most + "=" + most + "+1", most + "-1<" + most, "999*999+999+999<" + most, "999*999+999+999+1=" + most,
            "999*999+999+999+2=" + most, "999*999+999+999+2-1=999*999+999+999", most + "+999-999=" + most + "-999",
            "501*500*4=" + most, "999*999*999=" + most, "999*999*999*999*999=" + most, "500*500*5-" + most + "=0",
            most + "+" + most + "=" + most, "(" + most + ")*(" + most + ")=" + most,
            "(" + least + ")*(" + most + ")=" + least, "(" + least + ")*(" + least + ")=" + most,
            least + "-1=" + least, least + "<1-" + most, "0-999*999-999-999>" + least, least + "-999+999=999-" + most,
            least + "-" + most + "=" + least, "0-500*500*5=" + least, most + "*0=0", "(" + least + ")*1=" + least,
            most + "*1=" + most, "0-1<0", "0-1=0-1", "3-5=0-2", "(0-3)*(0-5)=15", "(0-3)*5=0-15"};
        for (String truth : hold) {
            due(7, truth, holds(truth), 1);
            due(7, "not " + truth, holds("not " + truth), 0);
        }
        String[] fail = {most + "<" + most + "+1", most + ">" + most + "+1", least + ">" + least + "-1", "1<1", "1>1", "1=2"};
        for (String truth : fail) {
            due(7, truth, holds(truth), 0);
            due(7, "not [" + truth + "]", holds("not [" + truth + "]"), 1);
        }
    }

    static int holds(String truth) {
        return with("field 1 2;pair 0 0;may:" + truth + ";").why(0, 0, 1) == 0 ? 1 : 0;
    }

    /** "0 at least, 99 at most each (without one: hop)" */
    static void costs() {
        String[] sums = {"0", "1", "98", "99", "100", "999*999*9", "0-1", "0-" + MILLION, MILLION,
            "100-101*twin", "150*twin-50", "99-99*twin", "99*twin", "100*twin", "98+twin"};
        int[] both = {0, 2, 196, 198, 198, 198, 0, 0, 198, 99, 99, 99, 99, 99, 197};
        for (int i = 0; i < sums.length; i++) {
            TwinSpan x = with("field 1 2;pair 0 0;costs:" + sums[i] + ";");
            due(8, "costs " + sums[i], x.by(0, 0, 1, 3), both[i]);
            due(8, "costs " + sums[i], x.by(0, 1, 1, 3), both[i]);
            due(19, "costs " + sums[i], x.cheapest(0, 1, 1), both[i]);
            due(9, "costs " + sums[i], x.lead(0, 0, 1), both[i]);
        }
        due(9, "without a law", with("field 1 2;pair 0 0;").lead(0, 0, 1), 2);
        TwinSpan far = with("field 3 3;row 0 0 9 0;row 1 0 0 9;pair 0 2;");
        due(8, "without a law: hops of 1 and 3", far.by(0, 0, 2, 3), 4);
    }

    /** "An ERRAND is DONE, for good, once a TWIN is in its CELL (at the beginning, too)." */
    static void errandsDone() {
        TwinSpan x = with("field 1 4;pair 0 1 errand 1 1;");
        due(6, "at the beginning", x.pair(0, 6), 2);
        x.lead(0, 0, 1);
        due(6, "once it is there", x.pair(0, 6), 3);
        x.lead(0, 0, 1);
        stand(6, "on the way", x, 0, 2, 1);
        due(6, "for good", x.pair(0, 6), 3);
        due(44, "of all", x.count(5), 2);
        x.put(0, 1, 2);
        due(11, "those whose twin is there then", x.pair(0, 6), 1);
        x.put(0, 3, 3);
        due(11, "none", x.pair(0, 6), 0);
        x.put(0, 1, 1);
        due(11, "both", x.pair(0, 6), 3);
        x.undo(3);
        due(13, "undone", x.pair(0, 6), 3);
        x.undo(2);
        due(13, "undone", x.pair(0, 6), 2);
        TwinSpan crossed = with("field 1 2;pair 0 1 errand 1 0;");
        due(6, "the other one's cell is none of its own", crossed.pair(0, 6), 0);
    }

    // ---- 10 to 13

    /** "WALLS: 1 if it is one then, else 0. -11, -12." */
    static void walls() {
        TwinSpan x = with("field 6 6;row 5 9 9 9 9 9 8;pair 0 1;pair 7 7;");
        for (int c : beyond(0, 35)) {
            due(10, "no such cell " + c, x.wall(c), -11);
        }
        for (int c : new int[] {0, 1, 7}) {
            due(10, "somebody is there", x.wall(c), -12);
            due(5, "no wall", x.cell(c, 0), 0);
        }
        due(10, "nothing to undo", x.count(6), 0);
        due(10, "the last cell", x.wall(35), 1);
        due(10, "its height", x.wall(35) + x.cell(35, 0), 8);
        due(10, "told a wall", x.wall(30), 0);
        due(10, "height 0", x.cell(30, 0), 0);
        due(10, "again", x.wall(30), 1);
        due(10, "a wall", x.cell(30, 0), 9);
        TwinSpan y = with("field 6 6;pair 0 0;");
        for (int c = 1; c < 36; c++) {
            due(10, "wall " + c, y.wall(c), 1);
            due(44, "walls", y.count(3), c);
        }
        due(10, "all but one", y.wall(0), -12);
        due(13, "ten of them", y.undo(10), 0);
        due(44, "walls", y.count(3), 25);
    }

    /** "no TWIN of another PAIR is there": each twin of three pairs is in the way of the others. */
    static void everybody() {
        TwinSpan x = with("field 2 6;pair 0 1;pair 2 3;pair 4 5;");
        for (int c = 0; c < 6; c++) {
            due(5, "one twin in " + c, x.cell(c, 1), 1);
            due(5, "whose", x.cell(c, 2), c / 2);
            due(10, "somebody is in " + c, x.wall(c), -12);
            due(5, "nobody below", x.cell(6 + c, 1), 0);
            due(5, "nobody below", x.cell(6 + c, 2), -1);
            for (int p = 0; p < 3; p++) {
                int due = c / 2 == p ? 0 : -12;
                due(11, "pair " + p + " to " + c, x.put(p, c, c), due);
                due(13, "back", due == 0 ? x.undo(1) : 0, 0);
                due(28, "free for pair " + p, x.round(p, 6 + c) >>> c & 1, c / 2 == p ? 1 : 0);
            }
        }
        due(7, "in the way", x.why(0, 1, 1), 2);
        due(7, "in the way", x.why(1, 0, 3), 2);
        due(7, "in the way", x.why(1, 1, 1), 2);
        due(7, "in the way", x.why(2, 0, 3), 2);
        due(44, "spans", x.count(4), 3);
    }

    /** "To PUT: the SPAN then. -11, -12."; "both TWINS to FREE CELLS (one and the same may be)" */
    static void puts() {
        TwinSpan x = with("field 6 6;row 1 9 0 0 0 0 0;pair 2 2;pair 3 4;");
        for (int p : beyond(0, 1)) {
            due(11, "no such pair " + p, x.put(p, 0, 0), -11);
            due(11, "ahead of -12", x.put(p, 6, 3), -11);
        }
        for (int c : beyond(0, 35)) {
            due(11, "no such cell " + c, x.put(0, c, 0), -11);
            due(11, "no such cell " + c, x.put(0, 0, c), -11);
            due(11, "ahead of -12", x.put(0, c, 6), -11);
            due(11, "ahead of -12", x.put(0, 3, c), -11);
        }
        for (int c : new int[] {6, 3, 4}) {
            due(11, "not free: " + c, x.put(0, c, 0), -12);
            due(11, "not free: " + c, x.put(0, 0, c), -12);
            due(11, "not free: " + c, x.put(0, c, c), -12);
        }
        due(11, "nothing to undo", x.count(6), 0);
        stand(11, "nothing went", x, 0, 2, 2);
        due(11, "as far as can be", x.put(0, 0, 35), 10);
        due(6, "span", x.pair(0, 2), 10);
        due(11, "the other corners", x.put(0, 5, 30), 10);
        due(11, "one and the same", x.put(0, 35, 35), 0);
        due(11, "where it is", x.put(0, 35, 35), 0);
        due(11, "each in the other one's place", x.put(1, 4, 3), 1);
        due(11, "five calls", x.count(6), 5);
        due(44, "spans", x.count(4), 1);
        due(13, "undone", x.undo(4), 1);
        due(13, "span", x.pair(0, 2), 10);
    }

    /** "To have a MOOD (0 to 9): what it was. -11." */
    static void moods() {
        TwinSpan x = with("field 1 2;pair 0 0 mood 5;pair 1 1;");
        for (int n : beyond(0, 9)) {
            due(12, "mood " + n, x.mood(0, n), -11);
        }
        for (int p : beyond(0, 1)) {
            due(12, "pair " + p, x.mood(p, 0), -11);
        }
        due(12, "as it was", x.pair(0, 3), 5);
        due(12, "nothing to undo", x.count(6), 0);
        due(12, "9", x.mood(0, 9), 5);
        due(12, "0", x.mood(0, 0), 9);
        due(12, "0 again", x.mood(0, 0), 0);
        due(12, "the last pair", x.mood(1, 1), 0);
        due(12, "four calls", x.count(6), 4);
    }

    /** "n calls (1 to 10) are UNDONE: how many still can be. -3: n, more than can be."; "10 at most (eldest are forgotten)" */
    static void undoing() {
        for (int calls = 0; calls <= 13; calls++) {
            int kept = Math.min(calls, 10);
            for (int n = 0; n <= 11; n++) {
                TwinSpan x = with("field 1 2;pair 0 0 mood 9;");
                for (int i = 0; i < calls; i++) {
                    x.mood(0, i % 9);
                }
                int now = x.pair(0, 3);
                boolean can = n >= 1 && n <= kept;
                int was = calls - n > 0 ? (calls - n - 1) % 9 : 9;
                due(44, calls + " calls", x.count(6), kept);
                due(13, calls + " calls, undo(" + n + ")", x.undo(n), can ? kept - n : -3);
                due(13, calls + " calls, mood", x.pair(0, 3), can ? was : now);
                due(13, calls + " calls, left", x.count(6), can ? kept - n : kept);
            }
        }
        TwinSpan x = with("field 1 2;pair 0 0 mood 9;");
        for (int i = 0; i < 25; i++) {
            x.mood(0, i % 10);
            x.mood(0, (i + 1) % 10);
            due(13, "one of two", x.undo(1), Math.min(9, i + 1));
            x.mood(0, i % 10);
            x.undo(1);
        }
        due(13, "the rest", x.undo(x.count(6)), 0);
        due(13, "none", x.undo(1), -3);
        for (int n : beyond(1, 10)) {
            due(13, "n " + n, x.undo(n), -3);
        }
    }

    /** "Calls that did some can be UNDONE each as a whole ...: TWINS, SPANS, WALLS, ERRANDS DONE, MOODS." */
    static void whatIsUndone() {
        TwinSpan x = with("field 2 3;pair 0 1 errand 3 0 mood 1;pair 5 5;");
        tray(x, 0, 1, 2, 2004, 1001, 2019);
        due(15, "four deeds", x.perform(0), 4);
        due(15, "one call", x.count(6), 1);
        stand(15, "both went", x, 0, 3, 0);
        due(15, "both errands", x.pair(0, 6), 3);
        due(11, "put", x.put(0, 4, 2), 2);
        due(11, "none done", x.pair(0, 6), 0);
        due(13, "put undone", x.undo(1), 1);
        stand(13, "as it was", x, 0, 3, 0);
        due(13, "errands", x.pair(0, 6), 3);
        due(13, "mood", x.pair(0, 3), 4);
        due(13, "wall", x.cell(1, 0), 9);
        due(13, "all undone", x.undo(1), 0);
        stand(13, "as told", x, 0, 0, 1);
        due(13, "errands", x.pair(0, 6), 0);
        due(13, "mood", x.pair(0, 3), 1);
        due(13, "mood", x.pair(1, 3), 0);
        due(13, "wall", x.cell(1, 0), 0);
        x.put(0, 0, 4);
        due(13, "the span", x.undo(1) + x.pair(0, 2), 1);
    }

    // ---- 14 to 16

    /** "0 to 399 ...; 1000 to 1099 ...; 2000 to 2099 ...; others: 1." */
    static void everyDeed() {
        for (long v = -12; v <= 2112; v++) {
            deed(v);
        }
        // cut to fewer bits these would be deeds
        for (long base : new long[] {1L << 8, 1L << 16, 1L << 32, -(1L << 32), 1L << 62, Long.MIN_VALUE}) {
            deed(base);
            deed(base + 2);
            deed(base + 1002);
            deed(base + 2005);
        }
        deed(Long.MAX_VALUE);
        deed(Integer.MAX_VALUE);
        deed(Integer.MIN_VALUE);
    }

    static void deed(long v) {
        String text = "field 3 3;row 0 0 0 9;row 1 0 0 0;pair 0 1;pair 8 8 mood 2;may:not [row=1 and column=0];";
        TwinSpan x = with(text);
        TwinSpan y = with(text);
        int answer = -11;
        if (v >= 0 && v < 400) {
            answer = y.lead((int) v / 100, (int) v / 10 % 10, (int) v % 10);
        } else if (v >= 1000 && v < 1100) {
            answer = y.wall((int) v - 1000);
        } else if (v >= 2000 && v < 2100) {
            answer = y.mood(((int) v - 2000) / 10, (int) v % 10);
        }
        tray(x, 0, 3, v);
        due(14, "place of " + v, x.judge(0, 0), answer < 0 ? 0 : -1);
        due(14, "why not " + v, x.judge(0, 1), answer < 0 ? -10 - answer : 0);
        due(15, "perform " + v, x.perform(0), answer < 0 ? 0 : 1);
        due(15, "undo " + v, x.count(6), answer < 0 ? 0 : 1);
        due(15, "walls behind " + v, x.count(3), y.count(3));
        for (int p = 0; p < 2; p++) {
            stand(15, "behind " + v, x, p, y.pair(p, 0), y.pair(p, 1));
            due(15, "mood behind " + v, x.pair(p, 3), y.pair(p, 3));
        }
    }

    /** "what 0: the first place that can't be (NONE), 1: why (0) ... -2: the TRAY, what; -6." */
    static void judging() {
        TwinSpan x = with("field 1 4;pair 0 1 errand 2 0;pair 3 3;");
        for (int t : beyond(0, 3)) {
            due(14, "tray " + t, x.judge(t, 0), -2);
            due(15, "tray " + t, x.perform(t), -2);
        }
        for (int t = 0; t < 4; t++) {
            for (int what : beyond(0, 3)) {
                due(14, "what, ahead of -6", x.judge(t, what), -2);
            }
            for (int what = 0; what <= 3; what++) {
                due(14, "missing", x.judge(t, what), -6);
            }
            due(15, "missing", x.perform(t), -6);
        }
        judged(x, -1, 0, 0, 0);
        judged(x, -1, 0, 0, 2, 11);
        judged(x, -1, 0, 1, 4, 11, 1);
        judged(x, -1, 0, 2, 6, 11, 1, 13);
        judged(x, 1, 2, 0, 2, 11, 11, 1);
        judged(x, 0, 2, 0, 0, 101, 11);
        judged(x, 2, 1, 0, 2, 11, 2005, 2020, 1);
        judged(x, 1, 2, 0, 2, 11, 1002);
        judged(x, -1, 0, 0, 2, 11, 1000);
        due(14, "as if", x.count(6), 0);
        stand(14, "as if", x, 0, 0, 1);
    }

    static void judged(TwinSpan x, int place, int why, int done, int steps, long... deeds) {
        tray(x, 0, 2, deeds);
        long[] due = {place, why, done, steps};
        for (int what = 0; what < 4; what++) {
            due(14, "judge what " + what + " of " + java.util.Arrays.toString(deeds), x.judge(0, what), due[what]);
        }
    }

    /** "They are done, till one can't be: how many.", with as many deeds as a tray can have. */
    static void fullTrays() {
        TwinSpan x = with("field 1 2;pair 0 0;");
        long[] deeds = new long[40];
        for (int i = 0; i < 40; i++) {
            deeds[i] = i % 2 == 0 ? 1 : 13;
        }
        tray(x, 3, 0, deeds);
        due(14, "all can be", x.judge(3, 0), -1);
        due(14, "steps", x.judge(3, 3), 80);
        due(15, "forty", x.perform(3), 40);
        due(15, "one call", x.count(6), 1);
        x.write(3, 39, 1);
        due(15, "forty", x.perform(3), 39);
        x.undo(1);
        due(14, "the last one", x.judge(3, 0), 39);
        due(14, "why", x.judge(3, 1), 2);
        due(15, "all but the last one", x.perform(3), 39);
        stand(15, "till then", x, 0, 1, 1);
        x.write(3, 0, 1);
        due(15, "not even the first", x.perform(3), 0);
        due(15, "none behind it", x.count(6), 2);
        x.numbers(3, 0, 0);
        due(15, "an empty tray", x.perform(3), 0);
        due(15, "no call that did some", x.count(6), 2);
        due(14, "an empty tray", x.judge(3, 0), -1);
    }

    /** "so many times (1 to 40)"; "x becomes 1103515245 x + 12345, it is x >>> 16" with an int's wrap-around. */
    static void days() {
        String[] texts = {"field 6 6;row 2 0 9 9 0 0 0;pair 0 1;pair 20 28;pair 35 35;may:hop<4;", "field 2 2;pair 0 0;", "field 1 3;pair 0 1;pair 2 2;"};
        int[] seeds = {0, 1, 2, 3, -1, 12345, 65535, 65536, 1 << 30, Integer.MAX_VALUE, Integer.MIN_VALUE, 0x7fff0000, 0x8000ffff};
        for (String text : texts) {
            for (int seed : seeds) {
                for (int times : new int[] {1, 2, 39, 40}) {
                    day(text, seed, times);
                }
            }
        }
        TwinSpan x = with(texts[0]);
        for (int times : beyond(1, 40)) {
            due(16, "times " + times, x.day(7, times), -3);
        }
        due(16, "-3 did none", x.count(6), 0);
        due(16, "without pairs", new TwinSpan().day(1, 40) >= 0 ? 1 : 0, 1);
    }

    static void day(String text, int seed, int times) {
        TwinSpan x = with(text);
        TwinSpan y = with(text);
        long[] s = {seed & 0xffffffffL};
        int could = 0;
        for (int i = 0; i < times; i++) {
            int kind = draw(s) % 6;
            if (kind == 5) {
                could += y.wall(draw(s) % 36) >= 0 ? 1 : 0;
            } else {
                int twin = draw(s) % 2;
                int p = draw(s) % 3;
                could += y.lead(p, twin, draw(s) % 4) >= 0 ? 1 : 0;
            }
        }
        String name = "day(" + seed + ", " + times + ")";
        due(16, name, x.day(seed, times), could);
        due(16, name + " is one call", x.count(6), could > 0 ? 1 : 0);
        for (int c = 0; c < y.count(0) * y.count(1); c++) {
            due(16, name + ", cell " + c, x.cell(c, 0), y.cell(c, 0));
            due(16, name + ", pair in " + c, x.cell(c, 2), y.cell(c, 2));
        }
        for (int p = 0; p < y.count(2); p++) {
            stand(16, name, x, p, y.pair(p, 0), y.pair(p, 1));
        }
    }

    static int draw(long[] s) {
        s[0] = s[0] * 1103515245L + 12345 & 0xffffffffL;
        return (int) (s[0] >> 16);
    }

    // ---- refused calls

    /** "Refused calls answer by a code and change nothing" */
    static void refusals() {
        unchanged(9, x -> {
            due(9, "no such pair", x.lead(2, 0, 0), -11);
            due(9, "no such twin", x.lead(0, 2, 0), -11);
            due(9, "no such direction", x.lead(0, 0, 4), -11);
            due(9, "not free", x.lead(0, 0, 1), -12);
            due(9, "the law", x.lead(0, 0, 3), -13);
            due(9, "can't be drawn", x.lead(0, 1, 2), -14);
        });
        unchanged(10, x -> {
            due(10, "no such cell", x.wall(6), -11);
            due(10, "somebody is there", x.wall(0), -12);
            due(10, "somebody is there", x.wall(5), -12);
        });
        unchanged(11, x -> {
            due(11, "no such pair", x.put(2, 0, 0), -11);
            due(11, "no such cell", x.put(0, 3, 6), -11);
            due(11, "a wall", x.put(0, 3, 4), -12);
            due(11, "another pair", x.put(1, 3, 0), -12);
        });
        unchanged(12, x -> {
            due(12, "no such pair", x.mood(2, 1), -11);
            due(12, "no such mood", x.mood(0, 10), -11);
        });
        unchanged(13, x -> {
            due(13, "more than can be", x.undo(6), -3);
            due(13, "n", x.undo(0), -3);
            due(13, "n", x.undo(11), -3);
        });
        unchanged(15, x -> {
            due(15, "no such tray", x.perform(4), -2);
            due(15, "missing", x.perform(3), -6);
            due(15, "an empty one did none", x.perform(2), 0);
        });
        unchanged(16, x -> {
            due(16, "times", x.day(1, 0), -3);
            due(16, "times", x.day(1, 41), -3);
        });
    }

    /** What only asks changes nothing either. */
    static void looks() {
        unchanged(14, x -> {
            for (int what = -1; what <= 4; what++) {
                for (int t = -1; t <= 4; t++) {
                    x.judge(t, what);
                }
            }
        });
        unchanged(8, x -> {
            for (int i = 0; i < 64; i++) {
                x.by(i / 32, i / 16 % 2, i / 4 % 4, i % 4);
                x.why(i / 32, i / 16 % 2, i % 4);
            }
        });
        unchanged(5, x -> {
            for (int i = -1; i < 8; i++) {
                x.cell(i, 0);
                x.pair(0, i);
                x.fault(i);
                x.count(i);
            }
        });
    }

    public static void main(String[] args) {
        cellCalls();
        pairCalls();
        noSuchLead();
        rims();
        notFree();
        whichReason();
        whatOfBy();
        drawn();
        keptNumbers();
        costs();
        errandsDone();
        walls();
        everybody();
        puts();
        moods();
        undoing();
        whatIsUndone();
        everyDeed();
        judging();
        fullTrays();
        days();
        refusals();
        looks();
        end();
    }
}
