/** For each promise calls whose answers were told by hand from the document. */
public final class PromiseTests extends Asking {
    static void newObject() {
        TwinSpan x = new TwinSpan();
        long[] counts = {1, 1, 0, 0, 0, 0, 0, 0, 0};
        for (int i = 0; i < counts.length; i++) {
            due(1, "count(" + i + ")", x.count(i), counts[i]);
        }
        due(1, "cell(0, 0)", x.cell(0, 0), 0);
        due(1, "cell(0, 1)", x.cell(0, 1), 0);
        due(1, "cell(1, 0)", x.cell(1, 0), -2);
        due(1, "pair(0, 0)", x.pair(0, 0), -2);
        due(1, "undo(1)", x.undo(1), -3);
        for (int t = 0; t < 4; t++) {
            due(1, "perform", x.perform(t), -6);
        }
        due(1, "restore(0)", x.restore(0), -5);
        due(1, "restore(1)", x.restore(1), -5);
        due(1, "day(1, 40)", x.day(1, 40) >= 0 ? 1 : 0, 1);
    }

    static void feeding() {
        TwinSpan x = new TwinSpan();
        for (int i = 1; i <= 45; i++) {
            due(2, "feed " + i, x.feed(0x20202020, 0x20202020, 0x20202020, 0x20202020, 0x20202020), 20L * i);
        }
        due(2, "a 46th feed", x.feed(0, 0, 0, 0, 0), -5);
        due(2, "the tape stays", x.count(7), 900);
        due(2, "blanks alone", x.field(900), -32);
        due(2, "the end's place", x.fault(1), 900);
        due(2, "feed of a field", x.feed(0x6669656c, 0x64203220, 0x333b2020, 0x20202020, 0x20202020), 20);
        due(2, "highest byte first", x.field(20), 1);
        due(2, "rows", x.count(0), 2);
        due(2, "columns", x.count(1), 3);
        due(2, "a byte above 127", x.feed(0x6669656c, 0x64203220, 0x333b20e9, 0x20202020, 0x20202020), 20);
        due(2, "is no token", x.field(20), -31);
        due(2, "at its place", x.fault(1), 11);
        StringBuilder signs = new StringBuilder();
        while (signs.length() < 900) {
            signs.append(';');
        }
        due(2, "900 tokens", tell(x, signs.toString()), -32);
        due(2, "the first of them", x.fault(1), 0);
        String longest = "field 1 2;";
        while (longest.length() < 900) {
            longest += longest.length() == 890 ? "pair 0 1 ;" : "row 0 1 2;";
        }
        due(2, "a text of 900 bytes", tell(x, longest), 90);
        due(2, "is the field", x.cell(1, 0), 2);
    }

    static void fieldCalls() {
        TwinSpan x = new TwinSpan();
        feedText(x, LANE);
        due(3, "n below 0", x.field(-1), -3);
        due(3, "n above", x.field(21), -3);
        due(3, "n far above", x.field(Integer.MAX_VALUE), -3);
        due(3, "the tape stays", x.count(7), 20);
        due(3, "fault() too", x.fault(1), -1);
        due(3, "lines", x.field(19), 2);
        due(3, "the tape is empty", x.count(7), 0);
        due(3, "count(8)", x.count(8), 2);
        due(3, "a wall", x.wall(3), 1);
        due(3, "a fault", tell(x, "field 2 2;row"), -32);
        due(3, "the tape is empty", x.count(7), 0);
        due(3, "all stays: columns", x.count(1), 5);
        due(3, "all stays: walls", x.count(3), 1);
        due(3, "all stays: lines", x.count(8), 2);
        due(3, "all stays: undoing", x.count(6), 1);
        due(3, "all stays: pairs", x.pair(0, 1), 1);
        feedText(x, "field 2 2;row 0 9 9;");
        due(3, "a part of the tape", x.field(10), 1);
        due(3, "the rest is gone", x.count(7), 0);
        due(3, "nothing can be undone", x.undo(1), -3);
        due(3, "no pairs", x.count(2), 0);
        due(3, "no walls", x.count(3), 0);
        due(3, "field(0)", x.field(0), -32);
        due(3, "its place", x.fault(1), 0);
        due(3, "field alone", tell(x, "field 6 6;"), 1);
        due(3, "cells", x.cell(35, 0), 0);
        due(3, "no more cells", x.cell(36, 0), -2);
        due(3, "all sorts of lines", tell(x, "\nfield 1 3 ; row 0 1 9 2;row 0 3 4 9;costs:1;may:1=1;pair 1 0 mood 3 errand 2 0 mood 4 errand 1 2;costs:2;may:2=2;"), 8);
        due(3, "a later row strikes", x.cell(1, 0), 4);
        due(3, "a later wall", x.cell(2, 0), 9);
        due(3, "one wall", x.count(3), 1);
        due(3, "a later mood", x.pair(0, 3), 4);
        due(3, "a later errand", x.pair(0, 4), 1);
        due(3, "a later errand", x.pair(0, 5), 2);
        due(3, "done at the beginning", x.pair(0, 6), 1);
        due(3, "later costs", x.by(0, 0, 3, 3), 4);
        due(3, "no blanks", tell(x, "field1 5;pair0 1mood3errand4 0;may:not[column=9]and row=0;"), 3);
        due(3, "no blanks, mood", x.pair(0, 3), 3);
        due(3, "three pairs", tell(x, "field 1 6;pair 0 1;pair 2 2;pair 5 4;"), 4);
        due(3, "three pairs", x.count(2), 3);
    }

    static void fault(String text, int kind, int place) {
        TwinSpan x = new TwinSpan();
        due(4, text, tell(x, text), -30 - kind);
        due(4, "kind of: " + text, x.fault(0), kind);
        due(4, "place of: " + text, x.fault(1), place);
        due(4, "others", x.fault(2), -1);
        due(4, "others", x.fault(-1), -1);
    }

    static void faults() {
        TwinSpan x = new TwinSpan();
        due(4, "none at first", x.fault(0), 0);
        due(4, "none at first", x.fault(1), -1);
        tell(x, "field 9 9;");
        due(4, "a fault", x.fault(0), 3);
        x.field(5);
        due(4, "not read: stays", x.fault(1), 6);
        tell(x, LANE);
        due(4, "no fault", x.fault(0), 0);
        due(4, "no fault", x.fault(1), -1);
        fault("Field 1 1;", 1, 0);
        fault("field 1 1;\tpair 0 0;", 1, 10);
        fault("field 1 1; pair 0 0;#", 1, 20);
        fault("field 1000 1;", 1, 6);
        fault("field 1 1;row 00000 0;", 1, 14);
        fault("field 1 1 5555;", 1, 10);
        fault("field 1 1;may:1=1,", 1, 17);
        fault("row 0 0;", 2, 0);
        fault("fields 1 1;", 2, 0);
        fault("field 1;", 2, 7);
        fault("field 1 1", 2, 9);
        fault("field 1 1  ", 2, 11);
        fault("field 1 1 1;", 2, 10);
        fault("field 1 1;;", 2, 10);
        fault("field 1 1;field 1 1;", 2, 10);
        fault("field 1 1;walls 0;", 2, 10);
        fault("field 1 2;row 0 1;", 2, 17);
        fault("field 1 2;row 0 1 2 3;", 2, 20);
        fault("field 1 2;row 0 1 2 99;", 2, 20);
        fault("field 1 2;row 0 1 mood;", 2, 18);
        fault("field 1 2;pair 0 0;row 0 1 2;", 2, 19);
        fault("field 1 2;pair 0 0 0;", 2, 19);
        fault("field 1 2;pair 0 0 errand 1;", 2, 27);
        fault("field 1 2;pair 0 0 mood;", 2, 23);
        fault("field 1 2;pair 0 0 moods 1;", 2, 19);
        fault("field 1 2;may 1 = 1;", 2, 14);
        fault("field 1 2;may : 1;", 2, 17);
        fault("field 1 2;may : 1 = 1 = 1;", 2, 22);
        fault("field 1 2;may : ( 1 = 1 );", 2, 20);
        fault("field 1 2;may : [ 1 ] = 1;", 2, 20);
        fault("field 1 2;may : 1 = [ 1 = 1 ];", 2, 20);
        fault("field 1 2;may : -1 < 1;", 2, 16);
        fault("field 1 2;may : 1 = 1 or;", 2, 24);
        fault("field 1 2;may : 1 = 1 not 1 = 1;", 2, 22);
        fault("field 1 2;may : errand = 1;", 2, 16);
        fault("field 1 2;costs : not 1;", 2, 18);
        fault("field 1 2;costs : 1 < 2;", 2, 20);
        fault("field 1 2;costs : ( 1;", 2, 21);
        fault("field 1 2;costs : 1 2;", 2, 20);
        fault("field 1 2;costs : ;", 2, 18);
        fault("field 1 2;costs : 1 + ;", 2, 22);
        fault("field 1 2;costs : 1 - ;", 2, 22);
        fault("field 1 2;costs : 1 * ;", 2, 22);
        fault("field 1 2;costs : 1 * 2 * ;", 2, 26);
        fault("field 1 2;costs : ( ;", 2, 20);
        fault("field 1 2;costs : ( 1 + 2 ;", 2, 26);
        fault("field 1 2;may : 1 < ;", 2, 20);
        fault("field 1 2;may : 1 + < 1;", 2, 20);
        fault("field 1 2;may : 1 < 1 and ;", 2, 26);
        fault("field 1 2;may : 1 < 1 or ;", 2, 25);
        fault("field 1 2;may : 1 < 1 and 1 < 1 or ;", 2, 35);
        fault("field 1 2;may : not ;", 2, 20);
        fault("field 1 2;may : [ 1 = 1 ;", 2, 24);
        fault("field 1 2;may : [ ] ;", 2, 18);
        fault("field 1 1;zz 1;", 2, 10);
        fault("field 1 1;a;", 2, 10);
        fault("field 1 1;{", 1, 10);
        fault("field 1 1;`", 1, 10);
        fault("field 1 1;/", 1, 10);
        fault("field 1 1;,", 1, 10);
        fault("field 0 1;", 3, 6);
        fault("field 7 1;", 3, 6);
        fault("field 1 0;", 3, 8);
        fault("field 6 007;", 3, 8);
        fault("field 2 2;row 2 0 0;", 3, 14);
        fault("field 2 2;row 1 0 10;", 3, 18);
        fault("field 2 2;pair 4 0;", 3, 15);
        fault("field 2 2;pair 0 4;", 3, 17);
        fault("field 2 2;pair 999 4;", 3, 15);
        fault("field 2 2;row 0 0 9;pair 0 1;", 3, 27);
        fault("field 2 2;pair 0 1;pair 2 1;", 3, 26);
        fault("field 2 2;pair 0 1;pair 0 2;", 3, 24);
        fault("field 2 2;pair 0 1 errand 4 0;", 3, 26);
        fault("field 2 2;pair 0 1 errand 0 36;", 3, 28);
        fault("field 2 2;pair 0 1 mood 10;", 3, 24);
        fault("field 2 2;pair 0 0;pair 1 1;pair 2 2;pair 3 3;", 4, 37);
        fault("field 2 2;pair 0 0;pair 1 1;pair 2 2;pair", 4, 37);
        fault("field 1 2;costs:(((((((1)))))));", 4, 22);
        fault("field 1 2;may:[[[[[[[1=1]]]]]]];", 4, 20);
        fault("field 1 2;may:not not not not not not not 1=1;", 4, 38);
        fault("field 1 2;may:not[not[((1*(1=1;", 4, 26);
    }

    static void depths() {
        due(4, "six within one another", tell(new TwinSpan(), "field 1 2;costs:((((((1))))));"), 2);
        due(4, "six of all kinds", tell(new TwinSpan(), "field 1 2;may:not[not[((1))=1]];"), 2);
        due(4, "beside one another", tell(new TwinSpan(), "field 1 2;may:not 1=2 and not 1=2 and not 1=2 and not 1=2 and not 1=2 and not 1=2 and not 1=2;"), 2);
        due(4, "an errand may be a wall", tell(new TwinSpan(), "field 1 3;row 0 0 9 0;pair 0 2 errand 1 1;"), 3);
        due(4, "one and the same cell", tell(new TwinSpan(), "field 1 3;pair 1 1;"), 2);
    }

    // ---- 5 to 9

    static void looking() {
        TwinSpan x = with("field 2 3;row 0 1 2 9;row 1 8 0 3;pair 4 4 mood 7;pair 0 1 errand 5 2;");
        due(5, "height", x.cell(0, 0), 1);
        due(5, "height", x.cell(3, 0), 8);
        due(5, "wall", x.cell(2, 0), 9);
        due(5, "two twins", x.cell(4, 1), 2);
        due(5, "one twin", x.cell(1, 1), 1);
        due(5, "nobody", x.cell(5, 1), 0);
        due(5, "pair", x.cell(4, 2), 0);
        due(5, "pair", x.cell(1, 2), 1);
        due(5, "no pair", x.cell(2, 2), -1);
        for (int c : new int[] {-1, 6, Integer.MIN_VALUE, Integer.MAX_VALUE}) {
            due(5, "no such cell", x.cell(c, 0), -2);
        }
        due(5, "what", x.cell(0, 3), -2);
        due(5, "what", x.cell(0, -1), -2);
        x.wall(2);
        due(5, "a told wall has height 0", x.cell(2, 0), 0);
        x.wall(5);
        due(5, "a wall", x.cell(5, 0), 9);
        x.wall(5);
        due(5, "its height again", x.cell(5, 0), 3);
        long[] first = {4, 4, 0, 7, -1, -1, 0};
        long[] second = {0, 1, 1, 0, 5, 2, 0};
        for (int i = 0; i < 7; i++) {
            due(6, "pair(0, " + i + ")", x.pair(0, i), first[i]);
            due(6, "pair(1, " + i + ")", x.pair(1, i), second[i]);
        }
        due(6, "what", x.pair(0, 7), -2);
        due(6, "what", x.pair(0, -1), -2);
        due(6, "no such pair", x.pair(2, 0), -2);
        due(6, "no such pair", x.pair(-1, 0), -2);
        due(6, "no such pair", x.pair(3, 0), -2);
    }

    static void whyNot() {
        TwinSpan x = with("field 3 3;row 0 0 0 0;row 1 0 9 4;pair 0 2;pair 7 8;may:twin=1 or height<4;");
        due(7, "no such pair", x.why(2, 0, 0), 1);
        due(7, "no such pair", x.why(-1, 0, 0), 1);
        due(7, "no such twin", x.why(0, 2, 0), 1);
        due(7, "no such twin", x.why(0, -1, 0), 1);
        due(7, "no such direction", x.why(0, 0, 4), 1);
        due(7, "no such direction", x.why(0, 0, -1), 1);
        due(7, "the rim above", x.why(0, 0, 0), 2);
        due(7, "the rim to the left", x.why(0, 0, 3), 2);
        due(7, "the rim to the right", x.why(0, 1, 1), 2);
        due(7, "the rim below", x.why(1, 0, 2), 2);
        due(7, "a wall", x.why(1, 0, 0), 2);
        due(7, "another pair", x.why(1, 1, 1), 2);
        due(7, "it can", x.why(0, 0, 1), 0);
        due(7, "it can", x.why(0, 0, 2), 0);
        x.put(0, 2, 0);
        due(7, "law for the one that leads", x.why(0, 0, 2), 3);
        TwinSpan y = with("field 1 3;pair 0 2;");
        due(7, "can't be drawn", y.why(0, 0, 1), 4);
        due(7, "can't be drawn", y.why(0, 1, 3), 4);
        TwinSpan z = with("field 1 4;pair 1 2;pair 3 3;may:not column=0;");
        due(7, "another pair's cell", z.why(0, 1, 1), 2);
        due(7, "law ahead of drawing", z.why(0, 0, 3), 3);
        due(7, "own twin's cell is free", z.why(0, 0, 1), 0);
        due(7, "the law for the one drawn", z.why(0, 1, 3), 0);
        stand(7, "nothing went", z, 0, 1, 2);
    }

    static void byLeading() {
        TwinSpan x = with(SQUARE);
        due(8, "where 0 would be", x.by(0, 0, 1, 0), 1);
        due(8, "where 1 would be", x.by(0, 0, 1, 1), 5);
        due(8, "hop", x.by(0, 0, 1, 2), 1);
        due(8, "cost", x.by(0, 0, 1, 3), 2);
        due(8, "of like ones the first", x.by(0, 0, 2, 1), 1);
        due(8, "by twin 1", x.by(0, 1, 3, 0), 3);
        due(8, "by twin 1", x.by(0, 1, 3, 1), 1);
        due(8, "by twin 1, hop", x.by(0, 1, 3, 2), 1);
        due(8, "nothing went", x.pair(0, 0), 0);
        x.wall(1);
        due(8, "the next one", x.by(0, 0, 2, 1), 5);
        x.wall(5);
        due(8, "the last one", x.by(0, 0, 2, 1), 7);
        due(8, "hop of three", x.by(0, 0, 2, 2), 3);
        due(8, "cost", x.by(0, 0, 2, 3), 4);
        x.wall(7);
        due(8, "none", x.by(0, 0, 2, 1), -5);
        due(8, "what first", x.by(0, 0, 2, 4), -2);
        due(8, "what first", x.by(9, 9, 9, -1), -2);
        due(8, "whatever reason", x.by(0, 0, 0, 0), -5);
        due(8, "whatever reason", x.by(5, 0, 0, 0), -5);
        due(8, "whatever reason", x.by(0, 7, 0, 0), -5);
        due(8, "whatever reason", x.by(0, 0, 8, 0), -5);
        TwinSpan y = with(SQUARE + "may:twin=0 or not row=0;");
        due(8, "the law chooses among them", y.by(0, 0, 2, 1), 5);
        TwinSpan z = with("field 3 3;pair 4 4;");
        due(8, "span 0", z.by(0, 1, 0, 0), 1);
        due(8, "span 0", z.by(0, 1, 0, 1), 1);
    }

    static void laws() {
        String[] names = {"pair", "twin", "mood", "from", "height", "hop", "row", "column"};
        long[] of = {1, 0, 6, 5, 7, 1, 2, 1};
        // TWIN 1 is drawn up to cell 3, the first of like ones
        long[] other = {1, 1, 6, 7, 0, 1, 1, 1};
        String field = "field 3 2;row 2 5 7;pair 0 1;pair 4 5 mood 6;";
        for (int i = 0; i < names.length; i++) {
            TwinSpan x = with(field + "costs:" + names[i] + "*8;");
            due(8, names[i] + " in costs", x.by(1, 0, 1, 3), 8 * (of[i] + other[i]));
            TwinSpan y = with(field + "may:not twin=0 or " + names[i] + "=" + of[i] + ";");
            due(7, names[i] + " in may", y.why(1, 0, 1), 0);
            TwinSpan z = with(field + "may:not [twin=0 and " + names[i] + "=" + of[i] + "];");
            due(7, names[i] + " in may", z.why(1, 0, 1), 3);
        }
        String[] sums = {"1+2*3", "(1+2)*3", "10-2-3", "2*3*4", "5-9", "999", "100*100*100+1-999*999-2*970",
            "0-100*100*100-50+999*999+2*999+60", "500*500*500-999*999-2*980", "((((((7))))))"};
        int[] twice = {14, 18, 10, 48, 0, 198, 2 * 59, 2 * 59, 2 * 39, 14};
        for (int i = 0; i < sums.length; i++) {
            due(9, "costs " + sums[i], with(LANE + "costs:" + sums[i] + ";").lead(0, 1, 1), twice[i]);
        }
        String[] truths = {"1=1", "1=2", "1<2", "2<2", "3>2", "2>2", "not 1=1", "not not 1=1", "1=2 or 1=1 and 1=2",
            "[1=2 or 1=1] and 1=1", "1=1 or 1=1 and 1=2", "[1=1 or 1=1] and 1=2", "not 1=2 and 1=2", "not [1=2 and 1=2]",
            "1+1=2", "0-1<0", "1 < 2 and 3 > 2 and 4 = 4", "1=2 or 1=2 or 1=1"};
        int[] why = {0, 3, 0, 3, 0, 3, 3, 0, 3, 0, 0, 3, 3, 0, 0, 0, 0, 0};
        for (int i = 0; i < truths.length; i++) {
            due(7, "may " + truths[i], with(LANE + "may:" + truths[i] + ";").why(0, 1, 1), why[i]);
        }
    }

    static void leading() {
        TwinSpan x = with("field 1 5;pair 0 1 errand 2 0;");
        due(9, "to lead", x.lead(0, 1, 1), 2);
        stand(9, "drawn after it", x, 0, 1, 2);
        due(9, "no errand done", x.pair(0, 6), 0);
        due(9, "to lead over its twin", x.lead(0, 0, 1), 2);
        stand(9, "of like ones the first", x, 0, 2, 1);
        due(9, "an errand done", x.pair(0, 6), 1);
        due(9, "to lead back", x.lead(0, 1, 3), 2);
        stand(9, "back", x, 0, 1, 0);
        due(9, "done for good", x.pair(0, 6), 3);
        due(9, "count(5)", x.count(5), 2);
        due(9, "span is kept", x.pair(0, 2), 1);
        due(9, "three calls", x.count(6), 3);
        due(9, "-11", x.lead(1, 0, 0), -11);
        due(9, "-11", x.lead(0, 2, 0), -11);
        due(9, "-11", x.lead(0, 0, 4), -11);
        due(9, "-12", x.lead(0, 0, 0), -12);
        due(9, "nothing changed", x.count(6), 3);
        TwinSpan y = with("field 1 3;pair 0 2;may:not twin=1;");
        due(9, "-14", y.lead(0, 0, 1), -14);
        due(9, "-13", y.lead(0, 1, 3), -13);
        due(9, "nothing can be undone", y.undo(1), -3);
        TwinSpan z = with(LANE + "costs:60*hop;");
        due(9, "99 at most each", with(LANE + "costs:60+60*twin;").lead(0, 1, 1), 159);
        due(9, "each its own", z.lead(0, 1, 1), 120);
    }

    // ---- 10 to 16

    static void deeds() {
        TwinSpan x = with("field 1 5;row 0 0 0 4 9 0;pair 0 1 errand 0 4;");
        due(10, "a wall", x.wall(2), 1);
        due(10, "count(3)", x.count(3), 2);
        due(10, "none any more", x.wall(2), 0);
        due(10, "its height", x.cell(2, 0), 4);
        due(10, "told a wall", x.wall(3), 0);
        due(10, "height 0", x.cell(3, 0), 0);
        due(10, "no such cell", x.wall(5), -11);
        due(10, "no such cell", x.wall(-1), -11);
        due(10, "somebody is there", x.wall(0), -12);
        due(10, "somebody is there", x.wall(1), -12);
        due(10, "three calls", x.count(6), 3);
        due(11, "done", x.pair(0, 6), 1);
        due(11, "to put", x.put(0, 4, 1), 3);
        due(11, "span", x.pair(0, 2), 3);
        due(11, "count(4)", x.count(4), 3);
        due(11, "not done any more", x.pair(0, 6), 0);
        due(11, "one and the same", x.put(0, 4, 4), 0);
        due(11, "done then", x.pair(0, 6), 2);
        due(11, "crossed", x.put(0, 4, 0), 4);
        due(11, "no such pair", x.put(1, 0, 0), -11);
        due(11, "no such pair", x.put(-1, 99, 0), -11);
        due(11, "no such cell", x.put(0, 5, 0), -11);
        due(11, "no such cell", x.put(0, 0, 5), -11);
        due(11, "no such cell", x.put(0, -1, 0), -11);
        due(11, "no such cell", x.put(0, 0, -1), -11);
        due(11, "no such cell", x.put(0, 36, Integer.MIN_VALUE), -11);
        x.wall(3);
        due(11, "a wall", x.put(0, 3, 0), -12);
        due(11, "a wall", x.put(0, 0, 3), -12);
        due(11, "a wall, no such cell", x.put(0, 3, 5), -11);
        due(11, "no such cell, a wall", x.put(0, -1, 3), -11);
        stand(11, "nothing changed", x, 0, 4, 0);
        due(11, "refused calls can't be undone", x.count(6), 7);
        TwinSpan y = with("field 2 2;pair 0 1;pair 2 3;");
        due(11, "another pair", y.put(0, 0, 2), -12);
        due(11, "another pair, no such cell", y.put(0, 2, 4), -11);
        due(11, "own cells", y.put(0, 1, 0), 1);
        due(12, "a mood", y.mood(0, 9), 0);
        due(12, "another one", y.mood(0, 4), 9);
        due(12, "pair(0, 3)", y.pair(0, 3), 4);
        due(12, "the other pair", y.pair(1, 3), 0);
        due(12, "no such mood", y.mood(0, 10), -11);
        due(12, "no such mood", y.mood(0, -1), -11);
        due(12, "no such pair", y.mood(2, 1), -11);
        due(12, "three calls", y.count(6), 3);
        due(12, "the same mood", y.mood(0, 4), 4);
        due(12, "four calls", y.count(6), 4);
    }

    static void undoing() {
        TwinSpan x = with("field 1 5;pair 0 1 errand 1 0;pair 4 4;");
        due(13, "none", x.undo(1), -3);
        x.lead(0, 0, 1);
        x.mood(1, 5);
        x.wall(3);
        x.put(1, 2, 4);
        due(13, "n", x.undo(0), -3);
        due(13, "n", x.undo(-1), -3);
        due(13, "n", x.undo(5), -3);
        due(13, "n", x.undo(11), -3);
        due(13, "one", x.undo(1), 3);
        due(13, "the span", x.pair(1, 2), 0);
        stand(13, "back", x, 1, 4, 4);
        due(13, "two", x.undo(2), 1);
        due(13, "the wall", x.count(3), 0);
        due(13, "the mood", x.pair(1, 3), 0);
        due(13, "still done", x.count(5), 2);
        due(13, "the last one", x.undo(1), 0);
        stand(13, "back", x, 0, 0, 1);
        due(13, "errands done", x.count(5), 0);
        for (int i = 0; i < 12; i++) {
            x.mood(0, i % 10);
        }
        due(13, "ten at most", x.count(6), 10);
        due(13, "all ten", x.undo(10), 0);
        due(13, "the eldest are forgotten", x.pair(0, 3), 1);
        tray(x, 0, 1, 1003, 2005);
        x.perform(0);
        due(13, "a call as a whole", x.undo(1), 0);
        due(13, "wall", x.count(3), 0);
        due(13, "mood", x.pair(0, 3), 1);
    }

    static void judging() {
        TwinSpan x = with("field 1 5;pair 0 1 errand 2 4;");
        due(14, "missing", x.judge(0, 0), -6);
        due(14, "what first", x.judge(0, 4), -2);
        due(14, "what", x.judge(0, -1), -2);
        due(14, "no such tray", x.judge(4, 0), -2);
        due(14, "no such tray", x.judge(-1, 0), -2);
        tray(x, 0, 1, 11, 1, 2005, 1004, 1002, 0);
        due(14, "place", x.judge(0, 0), 4);
        due(14, "why", x.judge(0, 1), 2);
        due(14, "done", x.judge(0, 2), 1);
        due(14, "steps", x.judge(0, 3), 4);
        stand(14, "as if", x, 0, 0, 1);
        due(14, "as if", x.count(6), 0);
        due(15, "perform", x.perform(0), 4);
        stand(15, "performed", x, 0, 2, 1);
        due(15, "wall", x.cell(4, 0), 9);
        due(15, "mood", x.pair(0, 3), 5);
        due(15, "one call", x.count(6), 1);
        due(15, "undone", x.undo(1), 0);
        stand(15, "as a whole", x, 0, 0, 1);
        due(15, "none can be", first(x, 3), 0);
        due(15, "it did none", x.count(6), 0);
        due(15, "missing", x.perform(1), -6);
        due(15, "no such tray", x.perform(4), -2);
        tray(x, 1, 0);
        due(14, "an empty tray", x.judge(1, 0), -1);
        due(14, "an empty tray", x.judge(1, 1), 0);
        due(14, "an empty tray", x.judge(1, 3), 0);
        due(15, "an empty tray", x.perform(1), 0);
        long[] deeds = {400, 999, 1100, 1999, 2100, -1, 3000, 100, 20, 4, 1005, 1099, 2010, 1000, Long.MIN_VALUE};
        int[] reasons = {1, 1, 1, 1, 1, 1, 1, 1, 1, 1, 1, 1, 1, 2, 1};
        for (int i = 0; i < deeds.length; i++) {
            tray(x, 2, 3, 11, deeds[i]);
            due(14, "place of deed " + deeds[i], x.judge(2, 0), deeds[i] == 1000 ? -1 : 1);
            due(14, "why not deed " + deeds[i], x.judge(2, 1), deeds[i] == 1000 ? 0 : reasons[i]);
        }
        x.mood(0, 6);
        due(15, "mood 0", first(x, 2000), 1);
        due(15, "mood 0", x.pair(0, 3), 0);
        due(15, "mood 9", first(x, 2009), 1);
        due(15, "mood 9", x.pair(0, 3), 9);
        due(15, "cell 0, somebody is there", first(x, 1000), 0);
        TwinSpan y = with("field 3 3;row 0 0 9 0;row 1 0 0 9;pair 0 2;");
        tray(y, 0, 0, 2);
        due(14, "steps of both", y.judge(0, 3), 4);
        TwinSpan z = with("field 1 3;pair 0 2;may:not twin=1;");
        tray(z, 0, 0, 1);
        due(14, "why 4", z.judge(0, 1), 4);
        tray(z, 0, 0, 13);
        due(14, "why 3", z.judge(0, 1), 3);
    }

    /** performs one deed */
    static int first(TwinSpan x, long deed) {
        tray(x, 3, 3, deed);
        return x.perform(3);
    }

    static void days() {
        String text = "field 4 5;row 1 0 9 3 0 0;pair 0 1 errand 9 9;pair 12 18;pair 19 19;may:height<from+3;";
        for (int seed : new int[] {0, 1, -1, 77, 123456789, Integer.MIN_VALUE}) {
            TwinSpan x = with(text);
            TwinSpan y = with(text);
            int s = seed;
            int could = 0;
            for (int i = 0; i < 40; i++) {
                int[] draw = new int[4];
                int draws = 1;
                for (int k = 0; k < draws; k++) {
                    s = s * 1103515245 + 12345;
                    draw[k] = s >>> 16;
                    if (k == 0) {
                        draws = draw[0] % 6 == 5 ? 2 : 4;
                    }
                }
                int answer = draws == 2 ? y.wall(draw[1] % 36) : y.lead(draw[2] % 3, draw[1] % 2, draw[3] % 4);
                could += answer >= 0 ? 1 : 0;
            }
            due(16, "a day by " + seed, x.day(seed, 40), could);
            for (int c = 0; c < 20; c++) {
                due(16, "cell " + c, x.cell(c, 0) * 100 + x.cell(c, 1) * 10 + x.cell(c, 2),
                    y.cell(c, 0) * 100 + y.cell(c, 1) * 10 + y.cell(c, 2));
            }
            due(16, "a call", x.count(6), could > 0 ? 1 : 0);
            due(16, "undone", x.undo(1), 0);
            stand(16, "undone", x, 1, 12, 18);
        }
        TwinSpan x = with(text);
        due(16, "times", x.day(1, 0), -3);
        due(16, "times", x.day(1, 41), -3);
        due(16, "times", x.day(1, -1), -3);
        due(16, "no call", x.count(6), 0);
        TwinSpan still = with("field 1 1;pair 0 0;");
        due(16, "none could be", still.day(5, 40), 0);
        due(16, "it did none", still.count(6), 0);
    }

    // ---- 17 to 24

    static void coming() {
        TwinSpan x = with(LANE);
        due(17, "soonest", x.soonest(0, 4, 3), 4);
        due(17, "any", x.soonest(0, 4, -1), 4);
        due(17, "any", x.soonest(0, -1, 4), 3);
        due(17, "now", x.soonest(0, 0, 1), 0);
        due(17, "any at all", x.soonest(0, -1, -1), 0);
        due(17, "never", x.soonest(0, 0, 0), -1);
        due(17, "no such pair", x.soonest(1, 0, 0), -2);
        due(17, "no such cell", x.soonest(0, 5, 0), -2);
        due(17, "no such cell", x.soonest(0, 0, -2), -2);
        for (int i = 0; i < 4; i++) {
            due(18, "way", x.way(0, 4, 3, i), 1);
        }
        due(18, "not so many", x.way(0, 4, 3, 4), -1);
        due(18, "not so many", x.way(0, 0, 1, 0), -1);
        due(18, "can't be", x.way(0, 0, 0, 0), -1);
        due(18, "i", x.way(0, 4, 3, -1), -3);
        due(18, "i, can't be", x.way(0, 0, 0, -1), -3);
        due(18, "pair ahead of i", x.way(1, 0, 0, -1), -2);
        due(18, "cell ahead of i", x.way(0, 5, 0, -1), -2);
        due(18, "by twin 1", x.way(0, -1, 4, 0), 11);
        due(18, "by twin 1", x.way(0, -1, 4, 2), 11);
        TwinSpan walled = with("field 1 5;row 0 0 0 0 9 0;pair 0 1;");
        due(17, "behind a wall", walled.soonest(0, 4, -1), -1);
        walled.wall(3);
        due(17, "behind none", walled.soonest(0, 4, -1), 4);
        due(18, "the first by rows", with("field 3 3;pair 4 4;").way(0, 8, 8, 0), 1);
        due(18, "the first by rows", with("field 3 3;pair 4 4;").way(0, 8, 8, 1), 2);
    }

    static void cheaply() {
        // The lane's cell 1 is dear to enter, and the row below goes round it.
        TwinSpan x = with("field 2 3;row 0 0 8 0;pair 0 0;costs:1+height*5;");
        due(19, "round the height", x.cheapest(0, 2, 2), 8);
        due(17, "soonest", x.soonest(0, 2, 2), 2);
        int[] round = {2, 1, 1, 0};
        for (int i = 0; i < 4; i++) {
            due(20, "way round", x.cheapWay(0, 2, 2, i), round[i]);
        }
        due(20, "not so many", x.cheapWay(0, 2, 2, 4), -1);
        due(20, "can't be", x.cheapWay(0, 2, 1, 0), -1);
        due(20, "i", x.cheapWay(0, 2, 2, -1), -3);
        due(20, "pair ahead of i", x.cheapWay(1, 2, 2, -1), -2);
        due(20, "cell ahead of i", x.cheapWay(0, 6, 2, -1), -2);
        due(19, "now", x.cheapest(0, 0, 0), 0);
        due(19, "can't be", x.cheapest(0, 2, 1), -1);
        due(19, "no such pair", x.cheapest(1, 0, 0), -2);
        due(19, "no such cell", x.cheapest(0, 0, 6), -2);
        TwinSpan free = with("field 2 3;pair 0 0;costs:0;");
        due(19, "for nothing", free.cheapest(0, 5, 5), 0);
        due(20, "fewest of like ones", free.cheapWay(0, 5, 5, 3), -1);
        due(20, "first by rows", free.cheapWay(0, 5, 5, 0), 1);
        due(20, "first by rows", free.cheapWay(0, 5, 5, 1), 1);
        due(20, "first by rows", free.cheapWay(0, 5, 5, 2), 2);
        TwinSpan hop = with(LANE);
        due(19, "without a law", hop.cheapest(0, 4, 3), 8);
        due(19, "any", hop.cheapest(0, -1, 4), 6);
        // whatever else was asked in between, of another pair
        TwinSpan two = with("field 2 3;pair 0 0 mood 1;pair 3 3 mood 4;costs:mood+pair*10;");
        two.soonest(0, 2, 2);
        two.why(1, 0, 1);
        due(19, "of this pair", two.cheapest(0, 2, 2), 4);
        two.soonest(1, 5, 5);
        two.by(0, 0, 1, 3);
        due(19, "of the other pair", two.cheapest(1, 5, 5), 56);
        // Leading costs TWIN 0 much, being drawn nothing: TWIN 1 leads.
        TwinSpan one = with("field 1 5;pair 0 1;costs:5*[1=1];".replace("[1=1]", "(1-twin)*(2-hop)"));
        due(20, "who leads is cheaper", one.cheapWay(0, -1, 4, 0), 11);
    }

    static void rowsOf() {
        TwinSpan x = with(LANE);
        due(21, "no leads", x.rows(0, 0, 1, 0), 1);
        due(21, "no leads", x.rows(0, 1, 0, 0), 0);
        due(21, "any", x.rows(0, -1, -1, 1), 3);
        due(21, "both ways over", x.rows(0, 1, 0, 1), 2);
        due(21, "half a goal", x.rows(0, 1, -1, 1), 3);
        due(21, "n", x.rows(0, 0, 0, -1), -3);
        due(21, "n", x.rows(0, 0, 0, 16), -3);
        due(21, "pair ahead of n", x.rows(1, 0, 0, 16), -2);
        due(21, "cell ahead of n", x.rows(0, 9, 0, 16), -2);
        due(21, "parity", x.rows(0, 0, 1, 15), 0);
        TwinSpan y = with("field 1 2;pair 0 0;");
        due(21, "two each time", y.rows(0, 1, 1, 15), 1 << 15);
        TwinSpan z = with("field 6 6;pair 14 14;costs:0;");
        due(21, "eight each time", z.rows(0, -1, -1, 2), 64);
        due(21, "back again", z.rows(0, 14, 14, 2), 16);
    }

    static void needs() {
        TwinSpan x = with(LANE);
        due(22, "the lane", x.needed(0, 4, -1), cells(2, 3, 4));
        due(22, "as far as it goes", x.needed(0, 2, -1), cells(2));
        due(22, "now", x.needed(0, 0, 1), 0);
        due(22, "none anyhow", x.needed(0, 0, 0), 0);
        due(22, "no such pair", x.needed(1, 0, 0), -2);
        due(22, "no such cell", x.needed(0, 5, 0), -2);
        TwinSpan y = with("field 2 3;pair 0 0;pair 4 4;");
        due(22, "another pair stands in the way", y.needed(0, 2, -1), cells(1, 2));
        TwinSpan z = with("field 2 3;pair 0 0;");
        due(22, "two ways", z.needed(0, 2, -1), cells(2));
        due(22, "walls", x.count(3), 0);
    }

    static void errandRows() {
        TwinSpan x = with("field 1 5;pair 0 1 errand 4 0;pair 3 3;");
        due(23, "in the way", x.errands(0), -1);
        due(24, "in the way", x.errandWay(0, 0), -1);
        due(23, "without one", x.errands(1), 0);
        due(24, "without one", x.errandWay(1, 0), -1);
        due(23, "no such pair", x.errands(2), -2);
        due(24, "no such pair", x.errandWay(2, -1), -2);
        due(24, "i", x.errandWay(0, -1), -3);
        TwinSpan y = with("field 1 5;pair 0 1 errand 4 0;");
        due(23, "both, one behind the other", y.errands(0), 4);
        for (int i = 0; i < 4; i++) {
            due(24, "way", y.errandWay(0, i), 1);
        }
        due(24, "not so many", y.errandWay(0, 4), -1);
        y.lead(0, 0, 1);
        due(23, "one is done", y.errands(0), 3);
        TwinSpan z = with("field 1 5;pair 0 1 errand 0 1;");
        due(23, "done at the beginning", z.errands(0), 0);
        TwinSpan w = with("field 1 3;row 0 0 0 9;pair 0 1 errand 2 2;");
        due(23, "walled", w.errands(0), -1);
    }

    // ---- 25 to 32

    static void getting() {
        TwinSpan x = with(LANE);
        due(25, "all", x.reach(0, 0), 31);
        due(25, "all", x.reach(0, 1), 31);
        due(25, "no such pair", x.reach(1, 0), -2);
        due(25, "no such twin", x.reach(0, 2), -2);
        due(25, "no such twin", x.reach(0, -1), -2);
        due(26, "ways to stand", x.stands(0), 8);
        due(26, "no such pair", x.stands(-1), -2);
        due(27, "farthest", x.farthest(0, 0), 4);
        due(27, "farthest", x.farthest(0, 1), 4);
        due(27, "no such twin", x.farthest(0, 2), -2);
        due(27, "no such pair", x.farthest(1, 0), -2);
        x.wall(2);
        due(25, "walled", x.reach(0, 0), 3);
        due(26, "walled", x.stands(0), 2);
        due(27, "walled", x.farthest(0, 0), 1);
        due(27, "walled", x.farthest(0, 1), 0);
        TwinSpan y = with("field 3 3;pair 4 4;");
        due(27, "the first of like ones", y.farthest(0, 0), 0);
        TwinSpan z = with("field 1 1;pair 0 0;");
        due(25, "where it is", z.reach(0, 1), 1);
        due(26, "as it does", z.stands(0), 1);
        due(27, "where it is", z.farthest(0, 1), 0);
        TwinSpan w = with("field 3 3;row 1 0 9 0;pair 0 2;pair 6 6;");
        due(28, "round a cell", w.round(0, 0), cells(2));
        due(28, "round the other one", w.round(0, 2), cells(0, 8));
        due(28, "round a wall", w.round(0, 4), cells(0, 2, 8));
        due(28, "round another pair", w.round(0, 6), cells(0, 8));
        due(28, "span 0", w.round(1, 6), cells(6));
        due(28, "span 0, not free", w.round(1, 0), 0);
        due(28, "no such cell", w.round(0, 9), -2);
        due(28, "no such cell", w.round(0, -1), -2);
        due(28, "no such pair", w.round(2, 0), -2);
        due(29, "free cells", w.spans(0, 0), 7);
        due(29, "one step", w.spans(0, 1), 12);
        due(29, "four steps", w.spans(0, 4), 2);
        due(29, "ten steps", w.spans(0, 10), 0);
        due(29, "n", w.spans(0, 11), -3);
        due(29, "n", w.spans(0, -1), -3);
        due(29, "pair ahead of n", w.spans(2, 11), -2);
        due(29, "corners", with("field 6 6;pair 0 0;").spans(0, 10), 4);
    }

    static void forcing() {
        TwinSpan x = with(LANE);
        due(30, "it is there", x.forces(0, 0), 0);
        due(30, "one lead", x.forces(0, 1), 1);
        due(30, "never", x.forces(0, 2), -1);
        due(30, "no such cell", x.forces(0, 5), -2);
        due(30, "no such cell", x.forces(0, -1), -2);
        due(30, "no such pair", x.forces(1, 0), -2);
        due(31, "it is there", x.best(0, 0), -1);
        due(31, "to the right", x.best(0, 1), 1);
        due(31, "never", x.best(0, 2), -1);
        due(31, "no such cell", x.best(0, 5), -2);
        due(31, "no such pair", x.best(-1, 0), -2);
        due(32, "power", x.power(0), cells(0, 1));
        due(32, "no such pair", x.power(1), -2);
        // TWIN 0 may not lead at all: it stays, and TWIN 1 has to draw it along.
        TwinSpan y = with("field 1 3;pair 0 0;may:twin=1 or hop=2 or column=1;");
        due(30, "drawn to it", y.forces(0, 1), 1);
        TwinSpan z = with("field 1 2;pair 0 1;may:[twin=1 and column=0] or [twin=0 and column=1 and height=9];");
        due(30, "nobody can", z.forces(0, 1), -1);
        // TWIN 0 can't go down by itself, but TWIN 1 has nothing else to do than to go there.
        TwinSpan w = with("field 2 1;row 0 1;row 1 2;pair 0 0;may:twin=1 or from=3;");
        due(30, "twin 0 is not allowed to be drawn", w.forces(0, 1), -1);
        TwinSpan v = with("field 3 1;row 0 1;row 1 2;row 2 3;pair 0 2;");
        due(30, "neither can", v.forces(0, 1), -1);
        due(31, "neither can", v.best(0, 1), -1);
        due(32, "where it is", v.power(0), cells(0));
    }

    /** TWIN 0 stays as it can't LEAD (which counts), then TWIN 1 has to LEAD and draws it. */
    static void staying() {
        TwinSpan x = with("field 3 3;row 0 0 9 0;row 1 9 0 0;pair 0 4;may:twin=0 or row<2;");
        for (int way = 0; way < 4; way++) {
            due(30, "it can't lead", x.why(0, 0, way), 2);
        }
        due(30, "it stays, then it is drawn", x.forces(0, 7), 2);
        due(30, "from there on", x.forces(0, 4), 3);
        due(30, "from there on", x.forces(0, 6), 3);
        due(30, "from there on", x.forces(0, 8), 3);
        due(31, "it can lead in none", x.best(0, 7), -1);
        due(31, "it can lead in none", x.best(0, 8), -1);
        due(32, "power", x.power(0) & cells(0, 1, 3, 4, 6, 7, 8), cells(0, 4, 6, 7, 8));
    }

    // ---- 33 to 38

    static void trying() {
        TwinSpan x = with("field 1 5;row 0 0 5 0 0 0;pair 2 1;may:twin=0 or from=mood;");
        due(33, "missing", x.tried(0, 0), -6);
        due(33, "pair ahead of it", x.tried(0, 1), -2);
        due(33, "no such tray", x.tried(4, 0), -2);
        due(33, "no such tray", x.tried(-1, 0), -2);
        tray(x, 0, 0);
        due(33, "none", x.tried(0, 0), -4);
        tray(x, 0, 0, 0, 0, 0, 0, 0, 0, 0, 0, 0, 0, 0, 0, 7);
        due(33, "thirteen", x.tried(0, 0), -4);
        due(34, "thirteen", x.many(0, 0), -4);
        due(35, "thirteen", x.attempt(0, 0), -4);
        due(36, "thirteen", x.moods(0, 0), -4);
        tray(x, 0, 0, 0, 0, 0, 0, 0, 0, 0, 0, 0, 0, 0, 0);
        due(33, "twelve", x.tried(0, 0), cells(1, 3));
        due(34, "twelve", x.many(0, 0), 2);
        due(35, "which of both", x.attempt(0, 0), 1);
        for (long v : new long[] {2, 9, 12, 32, 40, 41, 100, -1, -10, -11, 1L << 40}) {
            tray(x, 1, 3, 0, v);
            due(33, "none such: " + v, x.tried(1, 0), -3);
            due(34, "none such: " + v, x.many(1, 0), -3);
            due(35, "none such: " + v, x.attempt(1, 0), -3);
            due(36, "none such: " + v, x.moods(1, 0), -3);
        }
        tray(x, 1, 2, 10);
        due(33, "couldn't", x.tried(1, 0), cells(1));
        due(34, "couldn't", x.many(1, 0), 1);
        due(35, "behind it", x.attempt(1, 0), 0);
        due(36, "couldn't", x.moods(1, 0), 1023 - 32);
        tray(x, 1, 2, 11);
        due(33, "could", x.tried(1, 0), cells(3));
        due(36, "could", x.moods(1, 0), 32);
        tray(x, 1, 2, 11, 30);
        due(33, "could, behind it couldn't", x.tried(1, 0), 0);
        due(34, "could, behind it couldn't", x.many(1, 0), 0);
        due(35, "there are none", x.attempt(1, 0), -1);
        due(36, "behind it mood 0 is due", x.moods(1, 0), 32);
        tray(x, 1, 2, 11, 31);
        due(33, "could twice", x.tried(1, 0), cells(3));
        due(36, "could twice", x.moods(1, 0), 0);
        tray(x, 1, 2, 1);
        due(33, "beyond the rim", x.tried(1, 0), 0);
        stand(33, "nothing went", x, 0, 2, 1);
        due(36, "no such pair", x.moods(1, 1), -2);
        due(36, "missing", x.moods(2, 0), -6);
        due(35, "missing", x.attempt(2, 0), -6);
        due(34, "missing", x.many(2, 0), -6);
        TwinSpan zero = with("field 1 5;row 0 5 0 0 0 0;pair 1 2;may:twin=0 or from=0;");
        tray(zero, 0, 0, 0);
        due(35, "cell 0 too", zero.attempt(0, 0), 1);
        TwinSpan y = with(SQUARE);
        tray(y, 0, 0, 0);
        due(33, "free ones just the span away", y.tried(0, 0), cells(2, 4, 6));
        y.wall(6);
        due(33, "no walls", y.tried(0, 0), cells(2, 4));
    }

    static void chances() {
        TwinSpan x = with(LANE);
        due(37, "sure", x.chance(0, 0, 1, 1, 0), 1);
        due(37, "sure", x.chance(0, 0, 1, 1, 1), 1);
        due(37, "of three", x.chance(0, 1, 0, 1, 0), 2);
        due(37, "of three", x.chance(0, 1, 0, 1, 1), 3);
        due(37, "no chance", x.chance(0, 0, 4, 1, 0), 0);
        due(37, "no chance", x.chance(0, 0, 4, 1, 1), 1);
        due(37, "no leads", x.chance(0, 0, 0, 0, 0), 1);
        due(37, "no leads", x.chance(0, 0, 1, 0, 0), 0);
        // behind one: (1,0) by two, (1,2) by one; from (1,0): (0,1), (2,1), (0,1); from (1,2):
        // TWIN 0 up to 0 and 2, TWIN 1 to 1 and 3: (0,1), (2,1), (0,1), (2,3)
        due(37, "two leads", x.chance(0, 0, 0, 2, 0), 11);
        due(37, "two leads", x.chance(0, 0, 0, 2, 1), 18);
        due(37, "pair", x.chance(1, 0, 0, 6, 0), -2);
        due(37, "twin", x.chance(0, 2, 0, 6, 0), -2);
        due(37, "cell", x.chance(0, 0, 5, 6, 0), -2);
        due(37, "what", x.chance(0, 0, 0, 6, 2), -2);
        due(37, "what", x.chance(0, 0, 0, 6, -1), -2);
        due(37, "n", x.chance(0, 0, 0, 6, 0), -3);
        due(37, "n", x.chance(0, 0, 0, -1, 0), -3);
        due(38, "likeliest", x.likeliest(0, 0, 1), 1);
        due(38, "likeliest", x.likeliest(0, 1, 1), 0);
        due(38, "no leads", x.likeliest(0, 1, 0), 1);
        due(38, "two leads", x.likeliest(0, 0, 2), 0);
        due(38, "pair", x.likeliest(1, 0, 6), -2);
        due(38, "twin", x.likeliest(0, -1, 6), -2);
        due(38, "n", x.likeliest(0, 0, 6), -3);
        due(38, "n", x.likeliest(0, 0, -1), -3);
        TwinSpan y = with("field 3 3;pair 4 4;");
        due(38, "the first of like ones", y.likeliest(0, 0, 1), 1);
        due(37, "of eight", y.chance(0, 0, 1, 1, 1), 4);
        TwinSpan z = with("field 1 1;pair 0 0;");
        due(37, "nothing goes", z.chance(0, 1, 0, 5, 0), 1);
        due(38, "nothing goes", z.likeliest(0, 1, 5), 0);
    }

    // ---- 39 to 44

    static void trayCalls() {
        TwinSpan x = with(LANE);
        due(39, "no such tray", x.numbers(4, 0, 1), -2);
        due(39, "no such tray", x.numbers(-1, 0, 99), -2);
        due(39, "no such sort", x.numbers(0, 4, 1), -2);
        due(39, "no such sort", x.numbers(0, -1, 99), -2);
        due(39, "n", x.numbers(0, 0, -1), -3);
        due(39, "n", x.numbers(0, 0, 41), -3);
        due(40, "still missing", x.write(0, 0, 1), -6);
        due(40, "no such tray", x.write(4, 0, 1), -2);
        due(40, "no such tray", x.write(-1, 0, 1), -2);
        due(39, "forty", x.numbers(0, 0, 40), 0);
        due(40, "the last place", x.write(0, 39, 5), 5);
        due(40, "no such number", x.write(0, 40, 5), -7);
        due(40, "no such number", x.write(0, -1, 5), -7);
        due(39, "stays", x.numbers(0, 0, 41), -3);
        due(40, "stays", x.write(0, 39, 6), 6);
        long v = 0x123456789abcdef0L;
        long[] cut = {(byte) v, (short) v, (int) v, v};
        for (int sort = 0; sort < 4; sort++) {
            x.numbers(1, sort, 2);
            due(40, "cut to sort " + sort, x.write(1, 1, v), cut[sort]);
            due(40, "all ones " + sort, x.write(1, 1, -1), -1);
        }
        due(40, "8 bits", writeOnce(x, 0, 128), -128);
        due(40, "16 bits", writeOnce(x, 1, 32768), -32768);
        due(40, "32 bits", writeOnce(x, 2, 1L << 31), -(1L << 31));
        due(39, "none", x.numbers(1, 0, 0), 0);
        due(40, "none", x.write(1, 0, 1), -7);
        tray(x, 2, 1, 11, 11);
        x.numbers(2, 1, 2);
        due(39, "all 0", x.judge(2, 0), 0);
        due(39, "all 0", x.judge(2, 1), 2);
    }

    static long writeOnce(TwinSpan x, int sort, long v) {
        x.numbers(3, sort, 1);
        return x.write(3, 0, v);
    }

    static void listing() {
        TwinSpan x = with("field 1 5;pair 4 4;pair 0 1;");
        due(41, "no such tray", x.lists(4, 1, 3, 2), -2);
        due(41, "no such pair", x.lists(0, 2, 3, 2), -2);
        due(41, "no such cell", x.lists(0, 1, 5, 2), -2);
        due(41, "missing", x.lists(0, 1, 3, 2), -6);
        tray(x, 0, 1, 7, 7, 7, 7, 7);
        due(41, "there is none", x.lists(0, 1, 4, -1), -5);
        due(41, "three leads", x.lists(0, 1, 3, 2), 3);
        due(41, "behind them the old ones", x.judge(0, 0), 3);
        due(41, "performed", x.perform(0), 3);
        stand(41, "there", x, 1, 3, 2);
        due(41, "it is there", x.lists(0, 1, 3, 2), 0);
        x.undo(1);
        tray(x, 0, 1, 7, 7);
        due(41, "as far as there are places", x.lists(0, 1, 3, 2), 2);
        due(41, "performed", x.perform(0), 2);
        stand(41, "on the way", x, 1, 2, 1);
        due(41, "no places", x.numbers(1, 0, 0) + x.lists(1, 1, 3, 2), 0);
        TwinSpan y = with("field 1 4;pair 0 0;pair 1 1;pair 2 3;");
        tray(y, 0, 0, 0, 0);
        due(41, "cut to 8 bits", y.lists(0, 2, 3, 2), 1);
        due(41, "is no deed then", y.judge(0, 1), 1);
        tray(y, 0, 1, 0, 0);
        due(41, "16 bits hold it", y.lists(0, 2, 3, 2), 1);
        due(41, "is a deed", y.judge(0, 0), 1);
    }

    static void imaging() {
        TwinSpan x = with("field 1 5;pair 0 1 errand 1 4 mood 3;");
        due(42, "no such image", x.image(2), -2);
        due(42, "no such image", x.image(-1), -2);
        due(43, "no such image", x.restore(2), -2);
        due(43, "none was made", x.restore(0), -5);
        x.lead(0, 0, 1);
        x.wall(4);
        due(42, "made", x.image(0), 0);
        due(42, "undoing stays", x.count(6), 2);
        due(43, "the other one was not", x.restore(1), -5);
        x.put(0, 2, 2);
        x.mood(0, 8);
        x.wall(4);
        tray(x, 0, 0, 1);
        tell(x, "field 2 2;pair 3 3;may:1=2;costs:7;");
        due(43, "restored", x.restore(0), 0);
        stand(43, "twins", x, 0, 1, 0);
        long[] counts = {1, 5, 1, 1, 1, 1, 0, 0, 2};
        for (int i = 0; i < counts.length; i++) {
            due(43, "count(" + i + ")", x.count(i), counts[i]);
        }
        due(43, "mood", x.pair(0, 3), 3);
        due(43, "done", x.pair(0, 6), 1);
        due(43, "law", x.by(0, 1, 1, 3), 2);
        due(43, "trays stay", x.judge(0, 0), -1);
        due(43, "nothing can be undone", x.undo(1), -3);
        x.lead(0, 1, 1);
        due(42, "a later one in its place", x.image(0), 0);
        x.undo(1);
        x.restore(0);
        stand(42, "the later one", x, 0, 0, 1);
        tell(x, "field 7 7;");
        x.restore(0);
        due(43, "fault() is not in it", x.fault(0), 3);
        TwinSpan y = new TwinSpan();
        due(42, "of a new object", y.image(1), 0);
        tell(y, LANE);
        due(43, "of a new object", y.restore(1), 0);
        due(43, "lines", y.count(8), 0);
        due(43, "columns", y.count(1), 1);
    }

    static void counting() {
        TwinSpan x = with("field 2 5;row 0 0 0 0 9 9;pair 0 1 errand 0 2;pair 5 9 errand 7 9;pair 2 2;");
        feedText(x, "abc");
        x.wall(6);
        long[] counts = {2, 5, 3, 3, 5, 2, 1, 20, 5};
        for (int i = 0; i < counts.length; i++) {
            due(44, "count(" + i + ")", x.count(i), counts[i]);
        }
        due(44, "others", x.count(9), -1);
        due(44, "others", x.count(-1), -1);
        due(44, "others", x.count(Integer.MIN_VALUE), -1);
    }

    public static void main(String[] args) {
        newObject();
        feeding();
        fieldCalls();
        faults();
        depths();
        looking();
        whyNot();
        byLeading();
        laws();
        leading();
        deeds();
        undoing();
        judging();
        days();
        coming();
        cheaply();
        rowsOf();
        needs();
        errandRows();
        getting();
        forcing();
        staying();
        trying();
        chances();
        trayCalls();
        listing();
        imaging();
        counting();
        end();
    }
}
