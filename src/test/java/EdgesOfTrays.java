import java.math.BigInteger;

/** Promises 33 to 44, and Terms, part 3: each sentence about tries, chances, trays and images that names a bound. */
public final class EdgesOfTrays extends Asking {
    // ---- 33 to 36

    static void allTries(TwinSpan x, int tray, int p, String what, int code) {
        due(33, "tried: " + what, x.tried(tray, p), code);
        due(34, "many: " + what, x.many(tray, p), code);
        due(35, "attempt: " + what, x.attempt(tray, p), code);
        due(36, "moods: " + what, x.moods(tray, p), code);
    }

    /** "-2: the TRAY, the PAIR; -6; -4: not 1 to 12 numbers; -3: one is none such.", that which is told first. */
    static void refusedTries() {
        TwinSpan x = with(LANE);
        for (int t : beyond(0, 3)) {
            allTries(x, t, 0, "tray " + t, -2);
            allTries(x, t, 1, "tray and pair " + t, -2);
        }
        for (int p : beyond(0, 0)) {
            allTries(x, 0, p, "pair " + p + " ahead of -6", -2);
        }
        for (int t = 0; t < 4; t++) {
            allTries(x, t, 0, "missing " + t, -6);
        }
        for (int n = 0; n <= 40; n++) {
            TwinSpan y = with(LANE);
            long[] tries = new long[n];
            tray(y, 3, 1, tries);
            int code = n < 1 || n > 12 ? -4 : 0;
            due(33, n + " numbers", Math.min(0, y.tried(3, 0)), code);
            due(34, n + " numbers", Math.min(0, y.many(3, 0)), code);
            due(35, n + " numbers", Math.min(0, y.attempt(3, 0)), code);
            due(36, n + " numbers", Math.min(0, y.moods(3, 0)), code);
            allTries(y, 3, 1, n + " numbers, pair", -2);
            if (n > 0) {
                y.write(3, n - 1, 2);
                allTries(y, 3, 0, n + " numbers, the last none such", n > 12 ? -4 : -3);
                y.write(3, n - 1, 0);
                y.write(3, 0, -1);
                allTries(y, 3, 0, n + " numbers, the first none such", n > 12 ? -4 : -3);
            }
        }
    }

    /** "10 times a direction, and 1 ..., else 0": each number there is, and what only looks like one. */
    static void everyTry() {
        for (long v = -50; v <= 60; v++) {
            oneTry(v);
        }
        for (long base : new long[] {256, 65536, 1L << 32, 1L << 40, Long.MIN_VALUE}) {
            oneTry(base);
            oneTry(base + 1);
            oneTry(base + 31);
        }
        oneTry(Long.MAX_VALUE);
    }

    static void oneTry(long v) {
        TwinSpan x = with("field 3 3;pair 4 1;");
        tray(x, 0, 3, v);
        if (v < 0 || v > 31 || v % 10 > 1) {
            allTries(x, 0, 0, "try " + v, -3);
            return;
        }
        // wherever TWIN 1 is, TWIN 0 can go all four ways from the middle
        long due = v % 10 == 1 ? cells(1, 3, 5, 7) : 0;
        due(33, "try " + v, x.tried(0, 0), due);
        due(34, "try " + v, x.many(0, 0), v % 10 == 1 ? 4 : 0);
        due(35, "try " + v, x.attempt(0, 0), v % 10 == 1 ? 0 : -1);
        due(36, "try " + v, x.moods(0, 0), v % 10 == 1 ? 1023 : 0);
    }

    /** All of 1 to 12 numbers are tried, one behind the other. */
    static void twelveTries() {
        for (int n = 1; n <= 12; n++) {
            TwinSpan x = with("field 1 6;pair 0 0;");
            long[] tries = new long[n];
            for (int i = 0; i < n; i++) {
                tries[i] = i % 2 == 0 ? 11 : 31;
            }
            tray(x, 0, 0, tries);
            due(33, n + " tries", x.tried(0, 0), cells(0));
            due(34, n + " tries", x.many(0, 0), 1);
            due(36, n + " tries", x.moods(0, 0), 1023);
            x.write(0, n - 1, tries[n - 1] - 1);
            due(33, "it could, the last of " + n, x.tried(0, 0), 0);
            due(34, "it could, the last of " + n, x.many(0, 0), 0);
            due(35, "it could, the last of " + n, x.attempt(0, 0), -1);
            due(36, "it could, the last of " + n, x.moods(0, 0), 0);
            x.write(0, n - 1, 1);
            due(33, "it couldn't, the last of " + n, x.tried(0, 0), 0);
            x.write(0, n - 1, 0);
            due(33, "indeed it couldn't, the last of " + n, x.tried(0, 0), cells(0));
            stand(33, "nothing went", x, 0, 0, 0);
        }
    }

    /** "CELLS where TWIN 1 can have been at first (FREE ones, just the SPAN from TWIN 0, which is where it is)" */
    static void cellsAtFirst() {
        TwinSpan x = with("field 6 6;row 5 0 0 0 0 9 0;pair 28 35;pair 33 33;");
        tray(x, 0, 0, 1);
        due(33, "above 31", x.tried(0, 0), cells(16, 21, 23, 26, 35));
        due(34, "five", x.many(0, 0), 5);
        x.put(0, 35, 35);
        due(33, "span 0", x.tried(0, 0), cells(35));
        TwinSpan none = with("field 1 3;pair 1 1;");
        tray(none, 0, 0, 1);
        due(33, "it can't have been", none.tried(0, 0), 0);
        due(34, "it can't have been", none.many(0, 0), 0);
        due(35, "there are none", none.attempt(0, 0), -1);
        due(36, "there are none", none.moods(0, 0), 0);
    }

    /** "the lesser number of the CELLS by which it could LEAD so, or couldn't, is greatest, the first" */
    static void attempts() {
        // TWIN 1 in cell 1, 3, 5 or 7 round the middle; the law lets it go from some of them alone
        String field = "field 3 3;row 0 0 1 0;row 1 2 0 3;row 2 0 4 0;pair 4 1;";
        TwinSpan all = with(field);
        tray(all, 0, 0, 11, 31);
        due(35, "all alike: the first", all.attempt(0, 0), 0);
        TwinSpan still = with(field + "may:twin=0 and not row=1;");
        tray(still, 0, 0, 30);
        due(35, "in none of them: the first", still.attempt(0, 0), 0);
        TwinSpan down = with(field + "may:[twin=0 and not column=2 and not row=0] or [twin=1 and from>2];");
        tray(down, 0, 0, 0);
        due(33, "up it couldn't", down.tried(0, 0), cells(1, 3, 5, 7));
        due(35, "two could go down, two couldn't", down.attempt(0, 0), 2);
        TwinSpan first = with("field 1 5;row 0 5 0 0 0 0;pair 1 2;may:twin=0 or from=5;");
        tray(first, 0, 0, 0);
        due(35, "by the first cell alone it could", first.attempt(0, 0), 1);
        TwinSpan later = with(field + "may:[twin=0 and row=1 and column=0] or [twin=1 and from=3];");
        tray(later, 0, 0, 0, 20);
        due(35, "but one could", later.attempt(0, 0), 3);
    }

    /** "MOODS 0 to 9 likewise", "as bits" */
    static void moodBits() {
        for (int m = 0; m <= 9; m++) {
            TwinSpan x = with("field 1 2;pair 0 0 mood 5;may:mood=" + m + ";");
            tray(x, 0, 0, 11);
            due(36, "mood " + m, x.moods(0, 0), 1 << m);
            tray(x, 0, 0, 10);
            due(36, "not mood " + m, x.moods(0, 0), 1023 - (1 << m));
            due(36, "its own mood stays", x.pair(0, 3), 5);
            due(7, "its own mood stays", x.why(0, 0, 1), m == 5 ? 0 : 3);
        }
    }

    // ---- 37, 38

    /** "-2: the PAIR, the TWIN, the CELL, what; -3: n." */
    static void refusedChances() {
        TwinSpan x = with(LANE);
        for (int p : beyond(0, 0)) {
            due(37, "pair " + p, x.chance(p, 0, 0, 1, 0), -2);
            due(37, "pair, ahead of n", x.chance(p, 0, 0, 6, 0), -2);
            due(38, "pair " + p, x.likeliest(p, 0, 1), -2);
            due(38, "pair, ahead of n", x.likeliest(p, 0, 6), -2);
        }
        for (int twin : beyond(0, 1)) {
            due(37, "twin " + twin, x.chance(0, twin, 0, 1, 0), -2);
            due(37, "twin, ahead of n", x.chance(0, twin, 0, -1, 0), -2);
            due(38, "twin " + twin, x.likeliest(0, twin, 1), -2);
            due(38, "twin, ahead of n", x.likeliest(0, twin, -1), -2);
        }
        for (int c : beyond(0, 4)) {
            due(37, "cell " + c, x.chance(0, 0, c, 1, 0), -2);
            due(37, "cell, ahead of n", x.chance(0, 0, c, 6, 1), -2);
        }
        for (int what : beyond(0, 1)) {
            due(37, "what " + what, x.chance(0, 0, 0, 1, what), -2);
            due(37, "what, ahead of n", x.chance(0, 0, 0, 6, what), -2);
        }
        for (int n : beyond(0, 5)) {
            due(37, "n " + n, x.chance(0, 0, 0, n, 0), -3);
            due(37, "n " + n, x.chance(0, 1, 4, n, 1), -3);
            due(38, "n " + n, x.likeliest(0, 0, n), -3);
        }
    }

    /** "n LEADS (0 to 5)", "in lowest terms": a pair of SPAN 0 goes to each next cell as likely. */
    static void everyChance() {
        for (int start : new int[] {0, 14, 35}) {
            BigInteger[] above = new BigInteger[36];
            java.util.Arrays.fill(above, BigInteger.ZERO);
            above[start] = BigInteger.ONE;
            BigInteger below = BigInteger.ONE;
            for (int n = 0; n <= 5; n++) {
                TwinSpan x = with("field 6 6;pair " + start + " " + start + ";");
                int likeliest = 0;
                for (int c = 0; c < 36; c++) {
                    BigInteger common = above[c].gcd(below);
                    due(37, n + " leads to " + c + ", above", x.chance(0, c % 2, c, n, 0), above[c].divide(common).longValueExact());
                    due(37, n + " leads to " + c + ", below", x.chance(0, c % 2, c, n, 1), below.divide(common).longValueExact());
                    likeliest = above[c].compareTo(above[likeliest]) > 0 ? c : likeliest;
                }
                due(38, n + " leads", x.likeliest(0, n % 2, n), likeliest);
                above = furtherOn(above);
                below = below.multiply(BigInteger.valueOf(12));
            }
        }
    }

    /** Twelve parts of each cell's share go to the next cells, two, three or four of them. */
    static BigInteger[] furtherOn(BigInteger[] shares) {
        BigInteger[] next = new BigInteger[36];
        java.util.Arrays.fill(next, BigInteger.ZERO);
        for (int c = 0; c < 36; c++) {
            int[] to = {c >= 6 ? c - 6 : -1, c % 6 < 5 ? c + 1 : -1, c < 30 ? c + 6 : -1, c % 6 > 0 ? c - 1 : -1};
            int can = 0;
            for (int t : to) {
                can += t >= 0 ? 1 : 0;
            }
            for (int t : to) {
                if (t >= 0) {
                    next[t] = next[t].add(shares[c].multiply(BigInteger.valueOf(12 / can)));
                }
            }
        }
        return next;
    }

    /** "(if none can, nothing goes)"; no chance is 0 of 1, a sure one 1 of 1. */
    static void sureChances() {
        TwinSpan x = with("field 2 3;row 0 0 9 0;row 1 9 0 0;pair 0 0;");
        for (int n = 0; n <= 5; n++) {
            due(37, "nothing goes", x.chance(0, 0, 0, n, 0), 1);
            due(37, "nothing goes", x.chance(0, 1, 0, n, 1), 1);
            due(37, "no chance", x.chance(0, 0, 5, n, 0), 0);
            due(37, "no chance", x.chance(0, 1, 5, n, 1), 1);
            due(37, "a wall", x.chance(0, 1, 1, n, 0), 0);
            due(38, "nothing goes", x.likeliest(0, 0, n), 0);
        }
        due(38, "the last cell", with("field 6 6;pair 0 35;").likeliest(0, 1, 5), 35);
        due(38, "the first of like ones", with("field 1 3;pair 1 1;").likeliest(0, 0, 1), 0);
    }

    // ---- 39 to 41

    /** "-2: no such TRAY, sort; -3, and the TRAY stays: n is below 0 or above 40." */
    static void numbers() {
        TwinSpan x = with(LANE);
        for (int t : beyond(0, 3)) {
            due(39, "tray " + t, x.numbers(t, 0, 1), -2);
            due(39, "tray, ahead of n", x.numbers(t, 0, 41), -2);
            due(40, "tray " + t, x.write(t, 0, 0), -2);
        }
        for (int sort : beyond(0, 3)) {
            due(39, "sort " + sort, x.numbers(0, sort, 1), -2);
            due(39, "sort, ahead of n", x.numbers(0, sort, -1), -2);
        }
        for (int n : beyond(0, 40)) {
            due(39, "n " + n, x.numbers(0, 0, n), -3);
        }
        for (int t = 0; t < 4; t++) {
            due(39, "still missing", x.write(t, 0, 0), -6);
            due(40, "missing, ahead of -7", x.write(t, 40, 0), -6);
        }
        for (int t = 0; t < 4; t++) {
            for (int n : new int[] {0, 1, 39, 40}) {
                due(39, "n " + n, x.numbers(t, t, n), 0);
                due(40, "the last one of " + n, x.write(t, n - 1, 7), n > 0 ? 7 : -7);
                for (int i : beyond(0, n - 1)) {
                    due(40, "number " + i + " of " + n, x.write(t, i, 7), -7);
                }
            }
            for (int n : beyond(0, 40)) {
                due(39, "n " + n, x.numbers(t, 0, n), -3);
                due(39, "no such sort", x.numbers(t, 4, 1), -2);
            }
            due(39, "the tray stays", x.judge(t, 0), 0);
            due(40, "the tray stays", x.write(t, 39, 1L << 7), t == 0 ? -128 : 128);
        }
    }

    /** "all 0 (in place of another one)" */
    static void freshNumbers() {
        TwinSpan x = with("field 2 2;pair 3 3;");
        for (int sort = 0; sort < 4; sort++) {
            tray(x, 1, sort, 3, 1, 13, 11);
            due(39, "as written", x.judge(1, 0), -1);
            due(39, "anew", x.numbers(1, 3 - sort, 2), 0);
            due(39, "all 0", x.judge(1, 3), 2);
            due(39, "all 0", x.judge(1, 0), 1);
            due(39, "two of them", x.write(1, 2, 0), -7);
        }
        tray(x, 2, 0, 3);
        tray(x, 3, 0, 3);
        x.numbers(2, 0, 1);
        due(39, "another tray stays", x.judge(3, 3), 2);
    }

    /** "Number i of a TRAY is v, cut to its sort: as it is there." */
    static void cutNumbers() {
        TwinSpan x = new TwinSpan();
        for (int sort = 0; sort < 4; sort++) {
            int bits = 8 << sort;
            x.numbers(sort, sort, 1);
            long most = (1L << bits - 1) - 1;
            long[] fit = {0, 1, -1, most, -most - 1};
            for (long v : fit) {
                due(40, v + " by " + bits + " bits", x.write(sort, 0, v), v);
            }
            due(40, "one more by " + bits + " bits", x.write(sort, 0, most + 1), -most - 1);
            due(40, "one less by " + bits + " bits", x.write(sort, 0, -most - 2), most);
            for (long v : new long[] {255, 256, 65535, 65536, 0x123456789abcdef0L, Long.MAX_VALUE, Long.MIN_VALUE}) {
                BigInteger whole = BigInteger.valueOf(v).mod(BigInteger.ONE.shiftLeft(bits));
                boolean below = whole.testBit(bits - 1);
                due(40, v + " by " + bits + " bits", x.write(sort, 0, v),
                    (below ? whole.subtract(BigInteger.ONE.shiftLeft(bits)) : whole).longValueExact());
            }
        }
        // what is there counts, not what was written
        TwinSpan y = with("field 1 3;pair 0 0;");
        int[] judged = {-1, 0, 0, 0};
        for (int sort = 0; sort < 4; sort++) {
            tray(y, 0, sort, 257);
            due(40, "257 by sort " + sort, y.judge(0, 0), judged[sort]);
        }
    }

    /** "come into a TRAY, as far as it has places: how many. -2: the TRAY, the PAIR, a CELL; -6; -5: there is none." */
    static void lists() {
        String field = "field 1 5;row 0 0 0 0 0 9;pair 0 0;";
        TwinSpan x = with(field);
        for (int t : beyond(0, 3)) {
            due(41, "tray " + t, x.lists(t, 0, 3, 3), -2);
        }
        for (int p : beyond(0, 0)) {
            due(41, "pair, ahead of -6", x.lists(0, p, 3, 3), -2);
        }
        for (int c : new int[] {-2, 5, 36, Integer.MIN_VALUE, Integer.MAX_VALUE}) {
            due(41, "cell, ahead of -6", x.lists(0, 0, c, 3), -2);
            due(41, "cell, ahead of -6", x.lists(0, 0, 3, c), -2);
        }
        for (int t = 0; t < 4; t++) {
            due(41, "missing", x.lists(t, 0, 3, 3), -6);
            due(41, "missing, ahead of -5", x.lists(t, 0, 4, 4), -6);
        }
        for (int n = 0; n <= 5; n++) {
            TwinSpan y = with(field);
            y.numbers(3, 0, n);
            due(41, "there is none", y.lists(3, 0, 4, 4), -5);
            due(41, "there is none", y.lists(3, 0, 3, 2), -5);
            for (int i = 0; i < n; i++) {
                y.write(3, i, 3);
            }
            due(41, "none to be done", y.lists(3, 0, 0, -1), 0);
            due(41, "as they were", y.judge(3, 0), n > 0 ? 0 : -1);
            due(41, n + " places", y.lists(3, 0, 3, -1), Math.min(n, 3));
            due(41, "behind them as it was", y.judge(3, 0), -1);
            due(41, "done", y.perform(3), n);
            due(41, "there, and back again", y.pair(0, 0), n <= 3 ? n : 6 - n);
        }
        TwinSpan third = with("field 3 2;pair 0 0;pair 2 2;pair 4 4;");
        int[] listed = {0, 1, 1, 1};
        for (int sort = 0; sort < 4; sort++) {
            third.numbers(0, sort, 1);
            due(41, "as a deed", third.lists(0, 2, 5, 5), 1);
            due(41, "cut to its sort", third.perform(0), listed[sort]);
            third.put(2, 4, 4);
        }
    }

    // ---- 42 to 44

    /** "An IMAGE is made: 0. -2."; "All that is in an IMAGE is as it was: 0. -2; -5: none was made." */
    static void images() {
        TwinSpan x = with(LANE);
        for (int i : beyond(0, 1)) {
            due(42, "image " + i, x.image(i), -2);
            due(43, "image " + i, x.restore(i), -2);
        }
        due(43, "none at first", x.restore(0), -5);
        due(43, "none at first", x.restore(1), -5);
        x.lead(0, 0, 1);
        due(42, "made", x.image(1), 0);
        due(42, "still to be undone", x.count(6), 1);
        due(43, "the other one", x.restore(0), -5);
        x.mood(0, 3);
        due(42, "made", x.image(0), 0);
        x.put(0, 3, 3);
        x.wall(0);
        due(43, "restored", x.restore(1), 0);
        due(43, "mood", x.pair(0, 3), 0);
        due(43, "span", x.pair(0, 2), 1);
        due(43, "wall", x.count(3), 0);
        due(43, "nothing can be undone", x.count(6), 0);
        due(43, "nothing can be undone", x.undo(1), -3);
        due(43, "the other one", x.restore(0), 0);
        due(43, "mood", x.pair(0, 3), 3);
        stand(43, "twins", x, 0, 1, 0);
        due(43, "as often as one likes", x.restore(0) + x.restore(0), 0);
        due(9, "and on", x.lead(0, 0, 1), 2);
        due(13, "which can be undone", x.undo(1), 0);
        stand(13, "undone", x, 0, 1, 0);
    }

    /** "THE FIELD and what a call could bring back by UNDOING": other fields, laws, lines; no tape, no trays. */
    static void fieldsInImages() {
        TwinSpan x = new TwinSpan();
        due(42, "of a new object", x.image(0), 0);
        tell(x, "field 2 3;row 0 1 2 9;pair 0 1 errand 4 1 mood 7;may:hop=1;costs:9;");
        x.wall(5);
        x.image(1);
        tell(x, "field 6 6;");
        feedText(x, "field 1 2;");
        tray(x, 0, 1, 2008);
        due(43, "restored", x.restore(1), 0);
        long[] counts = {2, 3, 1, 2, 1, 1, 0, 20, 5};
        for (int i = 0; i < counts.length; i++) {
            due(43, "count(" + i + ")", x.count(i), counts[i]);
        }
        due(43, "heights", x.cell(1, 0), 2);
        due(43, "costs", x.by(0, 0, 1, 3), 18);
        due(43, "may", x.why(0, 0, 1), 0);
        due(43, "errand", x.pair(0, 4), 4);
        due(43, "trays stay", x.perform(0), 1);
        due(43, "of a new object", x.restore(0), 0);
        long[] first = {1, 1, 0, 0, 0, 0, 0, 20, 0};
        for (int i = 0; i < first.length; i++) {
            due(43, "count(" + i + ")", x.count(i), first[i]);
        }
        due(43, "the tape stays", x.field(20), 1);
        due(43, "its columns", x.count(1), 2);
    }

    /** "NONE for others." */
    static void counts() {
        TwinSpan x = with("field 6 6;row 5 9 9 9 9 9 9;pair 0 29 errand 0 0;pair 1 1 errand 1 1;pair 5 24 errand 24 5;may:1=1;costs:1;");
        long[] due = {6, 6, 3, 6, 18, 3, 0, 0, 7};
        for (int i = 0; i < due.length; i++) {
            due(44, "count(" + i + ")", x.count(i), due[i]);
        }
        for (int what : beyond(0, 8)) {
            due(44, "count(" + what + ")", x.count(what), -1);
        }
    }

    // ---- refused calls

    /** "Refused calls answer by a code and change nothing" */
    static void refusals() {
        unchanged(39, x -> {
            due(39, "tray", x.numbers(4, 0, 1), -2);
            due(39, "sort", x.numbers(0, 4, 1), -2);
            due(39, "n", x.numbers(0, 0, -1), -3);
            due(39, "n", x.numbers(1, 1, 41), -3);
            due(39, "n", x.numbers(3, 1, 41), -3);
        });
        unchanged(40, x -> {
            due(40, "tray", x.write(4, 0, 1), -2);
            due(40, "missing", x.write(3, 0, 1), -6);
            due(40, "number", x.write(0, 2, 1), -7);
            due(40, "number", x.write(1, -1, 1), -7);
            due(40, "number", x.write(2, 0, 1), -7);
        });
        unchanged(41, x -> {
            due(41, "tray", x.lists(4, 0, -1, -1), -2);
            due(41, "pair", x.lists(1, 2, -1, -1), -2);
            due(41, "cell", x.lists(1, 0, 6, -1), -2);
            due(41, "missing", x.lists(3, 0, -1, -1), -6);
            due(41, "there is none", x.lists(1, 0, 2, -1), -5);
        });
        unchanged(42, x -> {
            due(42, "image", x.image(2), -2);
            due(42, "image", x.image(-1), -2);
        });
        unchanged(43, x -> {
            due(43, "image", x.restore(2), -2);
            due(43, "image", x.restore(-1), -2);
            due(43, "none was made", x.restore(1), -5);
        });
    }

    /** What only asks changes nothing either. */
    static void looks() {
        unchanged(33, x -> {
            for (int t = -1; t <= 4; t++) {
                for (int p = -1; p <= 2; p++) {
                    x.tried(t, p);
                    x.many(t, p);
                    x.attempt(t, p);
                    x.moods(t, p);
                }
            }
        });
        unchanged(37, x -> {
            for (int n = -1; n <= 6; n++) {
                for (int p = -1; p <= 2; p++) {
                    x.chance(p, 0, 3, n, 0);
                    x.chance(p, 1, 4, n, 1);
                    x.likeliest(p, 1, n);
                }
            }
        });
    }

    public static void main(String[] args) {
        refusedTries();
        everyTry();
        twelveTries();
        cellsAtFirst();
        attempts();
        moodBits();
        refusedChances();
        everyChance();
        sureChances();
        numbers();
        freshNumbers();
        cutNumbers();
        lists();
        images();
        fieldsInImages();
        counts();
        refusals();
        looks();
        end();
    }
}
