/** Promises 1 to 4, and Terms, part 1: each sentence about a text that names a bound. */
public final class EdgesOfTexts extends Asking {
    static final String SIGNS = ";:+-*()[]=<>";

    // ---- 1

    /** "1 CELL, no PAIRS." "(without one: 1 row, 1 column, HEIGHT 0, no PAIRS)" */
    static void withoutText() {
        TwinSpan x = new TwinSpan();
        long[] counts = {1, 1, 0, 0, 0, 0, 0, 0, 0};
        for (int i = 0; i < counts.length; i++) {
            due(1, "count(" + i + ")", x.count(i), counts[i]);
        }
        due(1, "height", x.cell(0, 0), 0);
        due(1, "nobody", x.cell(0, 1), 0);
        due(1, "no pair", x.cell(0, 2), -1);
        due(1, "one cell", x.cell(1, 0), -2);
        for (int p = 0; p < 3; p++) {
            due(1, "no pairs", x.pair(p, 0), -2);
        }
        due(4, "no fault", x.fault(0), 0);
        due(4, "no place", x.fault(1), -1);
        due(10, "its cell becomes a wall", x.wall(0), 1);
        due(10, "and none again", x.wall(0), 0);
    }

    // ---- 2, 3

    /** "-5: it would have more than 900." */
    static void fullTape() {
        String text = "field 1 2;";
        while (text.length() < 890) {
            text += " ";
        }
        text += "row 0 3 4;";
        TwinSpan x = new TwinSpan();
        feedText(x, text.substring(0, 880));
        due(2, "880 bytes", x.count(7), 880);
        feedText(x, text.substring(880));
        due(2, "900 bytes", x.count(7), 900);
        due(2, "20 more", x.feed(0x23232323, 0x23232323, 0x23232323, 0x23232323, 0x23232323), -5);
        due(2, "20 more", x.feed(0, 0, 0, 0, 0), -5);
        due(2, "they did not come", x.count(7), 900);
        due(3, "901", x.field(901), -3);
        due(3, "900", x.field(900), 2);
        due(3, "told at the very end", x.cell(1, 0), 4);
        due(2, "empty then", x.feed(0, 0, 0, 0, 0), 20);
        String finalTape = text;
        unchanged(2, y -> feedText(y, finalTape), y -> due(2, "one more", y.feed(1, 2, 3, 4, 5), -5));
    }

    /** As many tokens as 900 bytes can have, and laws as long as can be. */
    static void fullTexts() {
        TwinSpan x = new TwinSpan();
        due(3, "900 tokens, a number last", tell(x, "+1".repeat(450)), -32);
        due(4, "the first of them", x.fault(1), 0);
        due(3, "900 tokens, a sign last", tell(x, "1+".repeat(450)), -32);
        due(4, "the first of them", x.fault(1), 0);
        String sum = "field1 2;pair 0 0;costs:" + "1+".repeat(437) + "1";
        due(3, "900 bytes", tell(x, sum + ";"), 3);
        due(8, "438 of them, 99 at most each", x.by(0, 0, 1, 3), 198);
        String difference = "field1 2;pair 0 0;costs:441" + "-1".repeat(436) + ";";
        due(3, "900 bytes", tell(x, difference), 3);
        due(8, "5 each", x.by(0, 0, 1, 3), 10);
        String truth = "field1 2;pair 0 0;may:" + "1=2or ".repeat(145) + "1=1;";
        due(3, "896 bytes", tell(x, truth), 3);
        due(7, "the last one holds", x.why(0, 0, 1), 0);
        String none = "field1 2;pair 0 0;may:" + "1=1and ".repeat(124) + "1=2;";
        due(3, "894 bytes", tell(x, none), 3);
        due(7, "the last one doesn't", x.why(0, 0, 1), 3);
        String lines = "field1 1;" + "costs:1;".repeat(111);
        due(3, "897 bytes", tell(x, lines), 112);
        due(44, "lines", x.count(8), 112);
    }

    /** A later text tells all anew: nothing is left of an earlier one, whatever its size. */
    static void laterTexts() {
        TwinSpan x = with("field 1 5;row 0 9 8 7 6 5;pair 1 2 errand 1 2 mood 7;pair 3 3 mood 8;may:1=2;costs:9;");
        x.wall(0);
        due(3, "a later one", tell(x, "field 1 5;pair 1 2;pair 3 4;"), 3);
        for (int p = 0; p < 2; p++) {
            due(6, "mood", x.pair(p, 3), 0);
            due(6, "errand", x.pair(p, 4), -1);
            due(6, "errand", x.pair(p, 5), -1);
            due(6, "done", x.pair(p, 6), 0);
        }
        for (int c = 0; c < 5; c++) {
            due(5, "height " + c, x.cell(c, 0), 0);
        }
        due(7, "no law", x.why(0, 0, 3), 0);
        due(8, "no costs", x.by(0, 0, 3, 3), 2);
        due(44, "done", x.count(5), 0);
        TwinSpan y = new TwinSpan();
        int[][] sizes = {{2, 3}, {3, 2}, {3, 3}, {1, 3}, {6, 6}, {6, 1}, {1, 6}, {5, 6}, {6, 5}, {2, 2}, {4, 2}, {1, 1}};
        for (int[] size : sizes) {
            int last = size[0] * size[1] - 1;
            String text = "field " + size[0] + " " + size[1] + ";pair 0 " + last / 2 + ";";
            TwinSpan fresh = with(text);
            due(3, text, tell(y, text), 2);
            due(25, "reach of " + text, y.reach(0, 0), fresh.reach(0, 0));
            due(26, "stands of " + text, y.stands(0), fresh.stands(0));
            due(27, "farthest of " + text, y.farthest(0, 1), fresh.farthest(0, 1));
            due(28, "round of " + text, y.round(0, last), fresh.round(0, last));
            due(29, "spans of " + text, y.spans(0, 1), fresh.spans(0, 1));
            due(30, "forces of " + text, y.forces(0, last), fresh.forces(0, last));
            due(19, "cheapest of " + text, y.cheapest(0, last, -1), fresh.cheapest(0, last, -1));
        }
    }

    /** "Twenty bytes ..., the highest of each int first" */
    static void orderOfBytes() {
        TwinSpan x = new TwinSpan();
        due(2, "feed", x.feed(0x6669656c, 0x64203520, 0x363b726f, 0x77203420, 0x31203220), 20);
        due(2, "feed", x.feed(0x33203420, 0x35203620, 0x3b202020, 0x20202020, 0x202020ff), 40);
        due(3, "all but the last byte", x.field(39), 2);
        for (int i = 0; i < 6; i++) {
            due(2, "height " + i, x.cell(24 + i, 0), 1 + i);
        }
        due(2, "feed", x.feed(0x6669656c, 0x64203520, 0x363b8020, 0x20202020, 0x20202020), 20);
        due(2, "a byte of 128", x.field(20), -31);
        due(2, "its place", x.fault(1), 10);
    }

    /** "The first n bytes of THE TAPE (which is empty then)"; "-3: n is below 0 or above what there is (THE TAPE stays)" */
    static void partsOfTheTape() {
        TwinSpan x = new TwinSpan();
        due(3, "one of none", x.field(1), -3);
        due(3, "below 0", x.field(-1), -3);
        due(4, "none was read", x.fault(0), 0);
        due(3, "none of none", x.field(0), -32);
        due(4, "one was read", x.fault(0), 2);
        due(4, "the end", x.fault(1), 0);
        feedText(x, "field 2 3;field 4 5;");
        for (int n : beyond(0, 20)) {
            due(3, "n " + n, x.field(n), -3);
            due(3, "the tape stays", x.count(7), 20);
            due(4, "not read", x.fault(1), 0);
        }
        due(3, "all of it", x.field(20), -32);
        due(4, "field once", x.fault(1), 10);
        due(3, "empty also with a fault", x.count(7), 0);
        feedText(x, "field 2 3;field 4 5;");
        due(3, "the first line", x.field(10), 1);
        due(3, "rows", x.count(0), 2);
        due(3, "empty", x.count(7), 0);
        feedText(x, "field 2 3;field 4 5;");
        due(3, "one byte too few", x.field(9), -32);
        due(4, "the text's length", x.fault(1), 9);
        feedText(x, "field 2 3;");
        due(3, "none of 20", x.field(0), -32);
        due(4, "the text's length", x.fault(1), 0);
        due(3, "empty", x.count(7), 0);
        unchanged(3, y -> {
            for (int n : beyond(0, 20)) {
                due(3, "n " + n, y.field(n), -3);
            }
        });
    }

    /** "nothing can be UNDONE"; "(field, too; all stays with a FAULT)" */
    static void undoingStays() {
        TwinSpan x = with(LANE);
        x.wall(4);
        x.lead(0, 0, 1);
        due(3, "a fault", tell(x, "field 6 6;pair 0 36;"), -33);
        due(3, "still to be undone", x.count(6), 2);
        due(3, "undone", x.undo(2), 0);
        stand(3, "as told", x, 0, 0, 1);
        due(3, "no wall", x.count(3), 0);
        x.wall(4);
        due(3, "no fault", tell(x, "field 1 5;"), 1);
        due(3, "nothing can be undone", x.count(6), 0);
        due(3, "nothing can be undone", x.undo(1), -3);
        due(3, "no wall of before", x.cell(4, 0), 0);
        due(3, "no pair of before", x.count(2), 0);
    }

    // ---- 4

    /** "NONE for others." */
    static void otherFaults() {
        TwinSpan x = new TwinSpan();
        tell(x, "field 1 9;");
        for (int what : beyond(0, 1)) {
            due(4, "what " + what, x.fault(what), -1);
        }
        due(4, "0", x.fault(0), 3);
        due(4, "1", x.fault(1), 8);
        tell(x, "field 1 1;");
        due(4, "none", x.fault(0), 0);
        due(4, "none", x.fault(1), -1);
    }

    // ---- Terms, part 1: the lines

    /** "field: rows, columns, 1 to 6 each; CELLS are numbered row by row from 0 on." */
    static void sizes() {
        for (int r = 1; r <= 6; r++) {
            for (int c = 1; c <= 6; c++) {
                TwinSpan x = reads("field " + r + " " + c + ";", 1);
                due(44, "rows", x.count(0), r);
                due(44, "columns", x.count(1), c);
                due(5, "the last cell", x.cell(r * c - 1, 0), 0);
                due(5, "no more", x.cell(r * c, 0), -2);
                TwinSpan y = with("field " + r + " " + c + ";row " + (r - 1) + " 7" + " 5".repeat(c - 1) + ";");
                due(5, "the first cell of the last row", y.cell((r - 1) * c, 0), 7);
                due(5, "the last one", y.cell(r * c - 1, 0), c == 1 ? 7 : 5);
                due(5, "the row above", y.cell((r - 1) * c - 1, 0), r == 1 ? -2 : 0);
            }
        }
        for (int n : new int[] {0, 7, 10, 99, 999}) {
            faulty(3, "field ~" + n + " 1;");
            faulty(3, "field 1 ~" + n + ";");
        }
        faulty(3, "field ~0 7;");
        reads("field 001 006;", 1);
    }

    /** "row: its HEIGHTS, as many as columns, 0 to 8, 9: a WALL (all 0; a later one of the same row strikes)." */
    static void heights() {
        for (int h = 0; h <= 9; h++) {
            TwinSpan x = reads("field 2 2;row 1 " + h + " 1;", 2);
            due(5, "height", x.cell(2, 0), h);
            due(5, "the next one", x.cell(3, 0), 1);
            due(5, "not told", x.cell(0, 0) + x.cell(1, 0), 0);
            due(44, "walls", x.count(3), h == 9 ? 1 : 0);
        }
        for (int h : new int[] {10, 19, 99, 999}) {
            faulty(3, "field 2 2;row 1 ~" + h + " 1;");
            faulty(3, "field 2 2;row 1 1 ~" + h + ";");
        }
        faulty(3, "field 2 2;row ~2 0 0;");
        faulty(3, "field 6 6;row ~6 0 0 0 0 0 0;");
        faulty(3, "field 1 1;row ~1 0;");
        reads("field 6 6;row 5 0 0 0 0 0 0;row 0 9 9 9 9 9 9;", 3);
        TwinSpan x = reads("field 1 3;row 0 9 9 4;row 0 9 5 9;row 0 2 6 9;", 4);
        due(5, "later ones strike", x.cell(0, 0), 2);
        due(5, "later ones strike", x.cell(1, 0), 6);
        due(5, "later ones strike", x.cell(2, 0), 9);
        due(44, "walls", x.count(3), 1);
        due(10, "told a wall, last", x.wall(2), 0);
        due(5, "0, if it was told a wall", x.cell(2, 0), 0);
        TwinSpan high = reads("field 6 6;row 5 9 9 9 9 9 9;row 0 0 9 9 9 0 0;row 5 0 0 0 0 0 9;", 4);
        due(44, "walls in the last row, struck", high.count(3), 4);
        due(5, "struck", high.cell(30, 0), 0);
        due(5, "still told", high.cell(3, 0), 9);
        due(5, "told again", high.cell(35, 0), 9);
        TwinSpan all = reads("field 1 2;row 0 9 9;", 2);
        due(44, "nothing but walls", all.count(3), 2);
    }

    /** "too many, too few HEIGHTS: what stands in place of one" */
    static void howManyHeights() {
        faulty(2, "field 2 1;row 0~;");
        faulty(2, "field 2 3;row 0 1 1~;");
        faulty(2, "field 2 3;row 0 1 1 ~row 1 1 1 1;");
        faulty(2, "field 2 3;row 0 1 1~");
        faulty(2, "field 2 3;row 0~;");
        faulty(2, "field 2 3;row~;");
        faulty(2, "field 2 3;row 0 1 1 1 ~1;");
        faulty(2, "field 2 3;row 0 1 1 1 ~99;");
        faulty(2, "field 1 1;row 0 1 ~1;");
        faulty(2, "field 6 6;row 0 1 1 1 1 1 1 ~9;");
        faulty(1, "field 2 3;row 0 1 1 1 ~1000;");
        faulty(1, "field 2 3;row 0 1 1 ~1000;");
        faulty(2, "field 2 3;row 0 1 ~-1 1;");
    }

    /** "pair: the CELLS of its TWINS ... (one and the same may be), each no WALL, without a TWIN of a PAIR told ahead" */
    static void cellsOfPairs() {
        for (int a = 0; a < 6; a++) {
            for (int b = 0; b < 6; b++) {
                TwinSpan x = reads("field 2 3;pair " + a + " " + b + ";", 2);
                stand(6, "as told", x, 0, a, b);
                due(6, "span", x.pair(0, 2), Math.abs(a / 3 - b / 3) + Math.abs(a % 3 - b % 3));
            }
        }
        for (int c : new int[] {6, 7, 35, 36, 63, 64, 65, 999}) {
            faulty(3, "field 2 3;pair ~" + c + " 0;");
            faulty(3, "field 2 3;pair 0 ~" + c + ";");
            faulty(3, "field 2 3;pair 0 0 errand ~" + c + " 0;");
            faulty(3, "field 2 3;pair 0 0 errand 0 ~" + c + ";");
        }
        reads("field 6 6;pair 35 0 errand 0 35;", 2);
        faulty(3, "field 6 6;pair ~36 0;");
        faulty(3, "field 6 6;pair 0 ~36;");
        faulty(3, "field 6 6;pair 0 0 errand ~36 0;");
        faulty(3, "field 6 6;pair 0 0 errand 0 ~36;");
        faulty(3, "field 2 3;row 0 9 0 0;row 1 0 0 9;pair ~0 1;");
        faulty(3, "field 2 3;row 0 9 0 0;row 1 0 0 9;pair 1 ~5;");
        reads("field 2 3;row 0 9 0 0;row 0 0 0 0;pair 0 0;", 4);
        String ahead = "field 2 3;pair 1 4;pair 2 2;";
        for (int c : new int[] {1, 4, 2}) {
            faulty(3, ahead + "pair ~" + c + " 0;");
            faulty(3, ahead + "pair 0 ~" + c + ";");
            faulty(3, ahead + "pair ~" + c + " " + c + ";");
        }
        reads(ahead + "pair 0 0;", 4);
        reads(ahead + "pair 5 3 errand 1 4;", 4);
    }

    /** "errand: a CELL for each TWIN (none); mood 0 to 9 (0); later ones strike" */
    static void flags() {
        TwinSpan x = reads("field 1 3;pair 0 1;", 2);
        due(6, "no errand", x.pair(0, 4), -1);
        due(6, "no errand", x.pair(0, 5), -1);
        due(6, "mood", x.pair(0, 3), 0);
        due(6, "none done", x.pair(0, 6), 0);
        for (int m = 0; m <= 9; m++) {
            due(6, "mood", reads("field 1 3;pair 0 1 mood " + m + ";", 2).pair(0, 3), m);
        }
        for (int m : new int[] {10, 99, 999}) {
            faulty(3, "field 1 3;pair 0 1 mood ~" + m + ";");
        }
        TwinSpan y = reads("field 1 3;row 0 0 0 9;pair 0 1 errand 2 2 mood 9 mood 0 errand 0 2 mood 5;", 3);
        due(6, "a later errand", y.pair(0, 4), 0);
        due(6, "a later errand, a wall", y.pair(0, 5), 2);
        due(6, "a later mood", y.pair(0, 3), 5);
        due(6, "done at the beginning", y.pair(0, 6), 1);
        TwinSpan z = reads("field 1 3;pair 0 1 errand 0 1 errand 2 2;", 2);
        due(6, "an errand that was struck", z.pair(0, 6), 0);
        TwinSpan w = reads("field 1 4;pair 0 1 errand 1 1;pair 2 3 errand 0 1;", 3);
        due(6, "its own twin's cell", w.pair(0, 6), 2);
        due(6, "another pair's cells", w.pair(1, 6), 0);
        due(6, "another pair's cells", w.pair(1, 5), 1);
        faulty(2, "field 1 3;pair 0 1 errand 2~;");
        faulty(2, "field 1 3;pair 0 1 errand~;");
        faulty(2, "field 1 3;pair 0 1 errand 2 2 ~2;");
        faulty(2, "field 1 3;pair 0 1 mood~;");
        faulty(2, "field 1 3;pair 0 1 mood 1 ~1;");
        faulty(2, "field 1 3;pair 0~;");
        faulty(2, "field 1 3;pair~;");
        faulty(2, "field 1 3;pair 0 ~mood 1;");
        String many = "field 1 3;pair 0 1";
        while (many.length() + 7 < 899) {
            many += " mood " + many.length() % 10;
        }
        reads(many + ";", 2);
    }

    /** "numbered from 0 on, 3 at most"; "4 the first TOKEN of a 4th pair" */
    static void howManyPairs() {
        String three = "field 2 2;pair 3 3 mood 1;pair 2 2 mood 2;pair 1 1 mood 3;";
        TwinSpan x = reads(three, 4);
        due(44, "pairs", x.count(2), 3);
        for (int p = 0; p < 3; p++) {
            due(6, "numbered from 0 on", x.pair(p, 3), p + 1);
        }
        due(6, "no more", x.pair(3, 3), -2);
        faulty(4, three + "~pair 0 0;");
        faulty(4, three + "~pair");
        faulty(4, three + "~pair 9 9;");
        faulty(4, three + "~pair #");
        faulty(4, three + "may:1=1;~pair 0 0;");
        faulty(1, three + "~Pair 0 0;");
        faulty(2, three + "~pairs 0 0;");
        reads(three + "may:pair=2;costs:pair;", 6);
    }

    /** "Once a pair is told, no row can be told any more. Later ones of may, costs strike." */
    static void orderOfLines() {
        faulty(2, "field 1 2;pair 0 0;~row 0 1 2;");
        faulty(2, "field 1 2;pair 0 0;~row");
        faulty(2, "field 1 2;pair 0 0;may:1=1;~row 0 1 2;");
        reads("field 1 2;may:1=1;costs:1;row 0 1 2;may:1=1;row 0 2 1;pair 0 0;", 7);
        TwinSpan x = reads("field 1 2;may:1=2;costs:5;pair 0 0;costs:7;may:1=1;", 6);
        due(7, "the later may", x.why(0, 0, 1), 0);
        due(8, "the later costs", x.by(0, 0, 1, 3), 14);
        TwinSpan y = reads("field 1 2;pair 0 0;costs:7;may:1=1;costs:3;may:1=2;", 6);
        due(7, "the later may", y.why(0, 0, 1), 3);
        reads("field 1 2;pair 0 0;pair 1 1;", 3);
        reads("field 1 2;costs:0;pair 0 0;costs:0;pair 1 1;", 5);
    }

    /** "field must be told first, and once" */
    static void fieldFirst() {
        faulty(2, "~row 0 0;");
        faulty(2, "~pair 0 0;field 1 1;");
        faulty(2, "~may:1=1;");
        faulty(2, "~costs:1;");
        faulty(2, "~;field 1 1;");
        faulty(2, "~1;");
        faulty(2, "~");
        faulty(2, "   ~");
        faulty(2, "\n \n~");
        faulty(2, " ~fiel 1 1;");
        faulty(2, "~fields 1 1;");
        faulty(2, "~fieldfield 1 1;");
        faulty(2, "field 1 1;~field 1 1;");
        faulty(2, "field 1 1;pair 0 0;~field");
        faulty(2, "field~;");
        faulty(2, "field 1~;");
        faulty(2, "field 1 1 ~1;");
        faulty(2, "field 1 1~");
        faulty(2, "field 1 1;~;");
        faulty(2, "field ~field 1;");
        reads("\n field 1 1;", 1);
        reads("field 1 1; \n", 1);
    }

    // ---- Terms, part 1: tokens and faults

    /** "blanks (10, 32)", "words (small letters)", "the signs", "1 no TOKEN begins so", for each byte there is. */
    static void everyByte() {
        for (int b = 0; b < 256; b++) {
            boolean blank = b == 10 || b == 32;
            boolean letter = b >= 'a' && b <= 'z';
            boolean digit = b >= '0' && b <= '9';
            boolean sign = SIGNS.indexOf((char) b) >= 0;
            int kind = letter || digit || sign ? 2 : 1;
            String last = "field 1 1;" + (char) b;
            String within = "field 1" + (char) b + "1;";
            if (blank) {
                reads(last, 1);
                reads(within, 1);
            } else {
                faulty(kind, 10, last);
                faulty(digit ? 3 : kind, digit ? 6 : 7, within);
            }
        }
    }

    /** "N (1 to 3 digits)"; "4 digits and more: at their first" */
    static void digits() {
        due(8, "000", reads("field 1 2;pair 0 0;costs:000;", 3).by(0, 0, 1, 3), 0);
        due(8, "007", reads("field 1 2;pair 0 0;costs:007;", 3).by(0, 0, 1, 3), 14);
        due(8, "999", reads("field 1 2;pair 0 0;costs:999-990;", 3).by(0, 0, 1, 3), 18);
        due(8, "7", reads("field 1 2;pair 0 0;costs:7;", 3).by(0, 0, 1, 3), 14);
        for (String n : new String[] {"1000", "0000", "0001", "9999", "12345", "4294967297", "18446744073709551617"}) {
            faulty(1, "field ~" + n + " 1;");
            faulty(1, "field 1 1;costs:~" + n + ";");
            faulty(1, "field 1 1;row 0 ~" + n + ";");
            faulty(1, "field 1 1;pair 0 ~" + n + ";");
            faulty(1, "field 1 1;~" + n + ";");
            faulty(1, "~" + n);
        }
        faulty(1, "field 1 1;costs:~" + "0".repeat(884));
        reads("field 1 1;costs:100;", 2);
        faulty(2, "field 1 1;costs:100 ~0;");
        faulty(2, "field 1 1;costs:100\n~0;");
    }

    /** "TOKENS, as long as they go on, between them blanks": where a token ends by itself none is needed. */
    static void whereTokensEnd() {
        reads("field1 1;", 1);
        faulty(3, "field~11;");
        reads("field 1 2;pair0 1mood3errand1 0;", 2);
        reads("field\n1\n2\n;\nmay\n:\nnot\n1\n=\n2\n;", 2);
        reads("field 1 2;may:1=1and 1=1or not 1=1;", 2);
        reads("field 1 2;may:pair=twin and mood=from or height=hop and row=column;", 2);
        faulty(2, "field 1 2;may:1=1 ~andnot 1=1;");
        faulty(2, "field 1 2;may:~notnot 1=1;");
        faulty(2, "field 1 2;may:~no t 1=1;");
        faulty(2, "field 1 2;~ro w 0 1 1;");
        faulty(2, "field 1 2;~roww 0 1 1;");
        faulty(2, "field 1 2;may:~heights=1;");
        faulty(2, "field 1 2;may:~heigh=1;");
        faulty(1, "field 1 2;may:~_row=1;");
        faulty(1, "field 1 2;~Row 0 1 1;");
        faulty(2, "field 1 2;~rOw 0 1 1;");
    }

    /** "FAULTS, the first along the text, of one TOKEN the least kind" */
    static void whichFaultComesFirst() {
        faulty(1, "~#field 7 7;");
        faulty(3, "field ~7 #");
        faulty(3, "field ~7 7;");
        faulty(2, "field ~row 7777;");
        faulty(2, "field 1~;7777");
        faulty(3, "field 1 ~7 7777");
        faulty(1, "field 1 ~7777 7");
        faulty(3, "field 2 2;pair ~4 #;");
        faulty(3, "field 2 2;pair 0 ~4 mood 10;");
        faulty(3, "field 2 2;pair 0 0 mood ~10 mood;");
        faulty(2, "field 2 2;pair 0 0 mood ~mood 10;");
        faulty(2, "field 2 2;row 0 0 0 ~10 #;");
        faulty(2, "field 2 2;pair 0 0;~row 9 9999;");
        // a seventh that couldn't stand there anyhow is 2; so is a number that is out of all bounds as well
        faulty(2, "field 1 2;costs:((((((~[1=1])))))));");
        faulty(2, "field 1 2;costs:((((((~not 1=1)))))));");
        faulty(2, "field 1 2;may:[[[[((~[1=1]))]]]];");
        faulty(2, "field 1 2;may:[[[[[[1=1 ~( 1)]]]]]];");
        faulty(2, "field 1 2;may:[[[[[[1=1 ~[ 1=1]]]]]]];");
        faulty(2, "field 2 2;pair 0 0 ~999;");
        faulty(2, "field 2 2;may:1=1 ~999;");
    }

    /** "the end: the text's length": whatever a whole text is cut to, unless a line ends there. */
    static void everyCut() {
        String text = "field 2 3 ; row 0 0 1 9 ;\nrow 1 0 0 0; may : not [ height > from + 2 * ( 1 + twin ) ] or hop < 10 ;"
            + "pair 0 1 errand 4 5 mood 7 ; pair 3 3 ; costs : 1 + height * hop - 1 ; ";
        for (int n = 0; n < text.length(); n++) {
            String cut = text.substring(0, n);
            if (cut.trim().endsWith(";")) {
                reads(cut, cut.length() - cut.replace(";", "").length());
            } else {
                faulty(2, cutWord(text, n), cut);
            }
        }
        reads(text, 7);
    }

    /** Where the word begins that is cut there, which can't stand there then; else the cut itself. */
    static int cutWord(String text, int n) {
        int place = n;
        while (isLetter(text.charAt(n)) && place > 0 && isLetter(text.charAt(place - 1))) {
            place--;
        }
        return place;
    }

    static boolean isLetter(char c) {
        return c >= 'a' && c <= 'z';
    }

    /** The language of the laws: what may stand, and what can't stand there. */
    static void laws() {
        reads("field 1 2;may:1=1;", 2);
        reads("field 1 2;may:1=1 or 1=1 or 1=1 and 1=1 and 1=1;", 2);
        reads("field 1 2;may:not not 1=1 and[1=1]or not[1=1];", 2);
        reads("field 1 2;may:1+1-1*1=(1+1)*(1-1)and 1<2 or 2>1;", 2);
        reads("field 1 2;costs:pair+twin-mood*from+height-hop*row+column;", 2);
        for (String name : "pair twin mood from height hop row column".split(" ")) {
            reads("field 1 2;may:" + name + "=" + name + ";costs:" + name + ";", 3);
        }
        for (String word : "field may costs errand or and not a".split(" ")) {
            faulty(2, "field 1 2;costs:~" + word + ";");
            faulty(2, "field 1 2;costs:1+~" + word + ";");
            faulty(2, "field 1 2;may:1=~" + word + ";");
        }
        for (char sign : (SIGNS.replace("(", "")).toCharArray()) {
            faulty(2, "field 1 2;costs:~" + sign + ";");
            faulty(2, "field 1 2;costs:1*~" + sign + ";");
            faulty(2, "field 1 2;costs:(~" + sign + ";");
            faulty(2, "field 1 2;may:1=~" + sign + ";");
            faulty(2, "field 1 2;may:not " + (sign == '[' ? "[~;" : "~" + sign));
        }
        for (char sign : ":()[]=<>".toCharArray()) {
            faulty(2, "field 1 2;costs:1~" + sign + ";");
            faulty(2, "field 1 2;may:1=1~" + sign + ";");
        }
        for (String after : ": ; ) [ ] ( 1 row or and not field".split(" ")) {
            faulty(2, "field 1 2;may:1 ~" + after + "=1;");
        }
        faulty(2, "field 1 2;may ~1=1;");
        faulty(2, "field 1 2;costs ~1;");
        faulty(2, "field 1 2;may:[1=1~;");
        faulty(2, "field 1 2;may:[1=1~);");
        faulty(2, "field 1 2;costs:(1~];");
        faulty(2, "field 1 2;may:(1~=1);");
        faulty(2, "field 1 2;may:[1~]=1;");
        faulty(2, "field 1 2;may:1=1 and~;");
        faulty(2, "field 1 2;may:1=1 or~;");
        faulty(2, "field 1 2;may:1=1 or ~or 1=1;");
        faulty(2, "field 1 2;may:1=1 ~1=1;");
        faulty(2, "field 1 2;may:1=1~");
        faulty(2, "field 1 2;costs:1~");
    }

    /** "At most six of not [ ( within one another."; "4 ... a seventh of not [ (" */
    static void howDeep() {
        String ahead = "field 1 2;pair 0 0;may:";
        for (int depth = 1; depth <= 7; depth++) {
            for (int rounds = 0; rounds <= depth; rounds++) {
                int others = depth - rounds;
                for (int bits = 0; bits < 1 << others; bits++) {
                    nested(ahead, others, bits, rounds);
                }
            }
        }
        reads("field 1 2;costs:((((((1))))))*((((((2))))))+((((((3))))));", 2);
        reads("field 1 2;may:((((((1))))))=((((((1))))))and[[[[[[1=1]]]]]]or not not not not not not 1=1;", 2);
        reads("field 1 2;may:[[[[[not 1=1]and not 1=1]]]]and not not not not not[1=1];", 2);
        reads("field 1 2;may:not not not not not(1)=(1)or(1)=1;", 2);
        faulty(4, "field 1 2;costs:((((((1))))))*((((((~(2)))))));");
        faulty(4, "field 1 2;may:[[[[[[1=1 and ~[1=1]]]]]]];");
        faulty(4, "field 1 2;may:[[[[[[1=~(1)]]]]]];");
        faulty(4, "field 1 2;may:[[[[[[1+1*~(1)=1]]]]]];");
        faulty(4, "field 1 2;may:[[[[[[1=1 or ~not 1=1]]]]]];");
        faulty(4, "field 1 2;may:not not not not not not 1=~(1);");
        faulty(4, "field 1 2;costs:((((((~(");
    }

    /** Some of not and [ by their bits, then ( so many times, round 1=1. */
    static void nested(String ahead, int others, int bits, int rounds) {
        StringBuilder text = new StringBuilder(ahead);
        int seventh = -1;
        int nots = 0;
        String closing = "";
        for (int i = 0; i < others + rounds; i++) {
            seventh = i == 6 ? text.length() : seventh;
            boolean isNot = i < others && (bits >> i & 1) != 0;
            nots += isNot ? 1 : 0;
            text.append(i >= others ? "(" : isNot ? "not " : "[");
            closing = i >= others || isNot ? closing : closing + "]";
        }
        text.append("1").append(")".repeat(rounds)).append("=1").append(closing).append(";");
        if (others + rounds > 6) {
            faulty(4, seventh, text.toString());
        } else {
            due(7, text.toString(), reads(text.toString(), 3).why(0, 0, 1), nots % 2 == 0 ? 0 : 3);
        }
    }

    public static void main(String[] args) {
        withoutText();
        fullTape();
        fullTexts();
        laterTexts();
        orderOfBytes();
        partsOfTheTape();
        undoingStays();
        otherFaults();
        sizes();
        heights();
        howManyHeights();
        cellsOfPairs();
        flags();
        howManyPairs();
        orderOfLines();
        fieldFirst();
        everyByte();
        digits();
        whereTokensEnd();
        whichFaultComesFirst();
        everyCut();
        laws();
        howDeep();
        end();
    }
}
