import java.util.ArrayList;
import java.util.List;

/** What the project's tests have in common: answers that are due, texts, trays, and whole looks at an object. */
class Asking {
    static final String LANE = "field 1 5;pair 0 1;";
    static final String SQUARE = "field 3 3;pair 0 2;";
    static int wrong = 0;
    static int asked = 0;

    /** Some calls on an object. */
    interface Calls {
        void on(TwinSpan x);
    }

    static void due(int promise, String what, long got, long want) {
        asked++;
        if (got != want) {
            wrong++;
            System.out.println("promise " + promise + ": " + what + " answered " + got + ", due is " + want);
        }
    }

    static void end() {
        System.out.println(asked + " answers asked, " + wrong + " wrong");
        if (wrong != 0) {
            System.exit(1);
        }
    }

    /** The numbers next to a range on either side, and as far out as can be. */
    static int[] beyond(int least, int most) {
        return new int[] {least - 1, most + 1, Integer.MIN_VALUE, Integer.MAX_VALUE};
    }

    // texts

    static void feedText(TwinSpan x, String text) {
        StringBuilder s = new StringBuilder(text);
        while (s.length() % 20 != 0) {
            s.append(' ');
        }
        for (int i = 0; i < s.length(); i += 20) {
            int[] w = new int[5];
            for (int k = 0; k < 20; k++) {
                w[k / 4] = w[k / 4] << 8 | s.charAt(i + k) & 255;
            }
            x.feed(w[0], w[1], w[2], w[3], w[4]);
        }
    }

    static int tell(TwinSpan x, String text) {
        feedText(x, text);
        return x.field(text.length());
    }

    static TwinSpan with(String text) {
        TwinSpan x = new TwinSpan();
        int lines = tell(x, text);
        if (lines < 1) {
            wrong++;
            System.out.println("a text that was no field: " + text + " (" + lines + " at " + x.fault(1) + ")");
        }
        return x;
    }

    /** A text that is a field of so many lines. */
    static TwinSpan reads(String text, int lines) {
        TwinSpan x = new TwinSpan();
        due(3, text, tell(x, text), lines);
        due(3, "count(8) of " + text, x.count(8), lines);
        due(4, "fault(0) of " + text, x.fault(0), 0);
        due(4, "fault(1) of " + text, x.fault(1), -1);
        return x;
    }

    /** A text with a fault: a ~ stands ahead of the place at which it is. All stays but the tape. */
    static void faulty(int kind, String marked) {
        int place = marked.indexOf('~');
        faulty(kind, place, marked.substring(0, place) + marked.substring(place + 1));
    }

    static void faulty(int kind, int place, String text) {
        TwinSpan x = with("field 1 5;row 0 0 0 0 9 3;pair 0 1 mood 2;");
        x.wall(2);
        due(3, text, tell(x, text), -30 - kind);
        due(4, "fault(0) of " + text, x.fault(0), kind);
        due(4, "fault(1) of " + text, x.fault(1), place);
        long[] counts = {1, 5, 1, 2, 1, 0, 1, 0, 3};
        for (int i = 0; i < counts.length; i++) {
            due(3, "count(" + i + ") behind " + text, x.count(i), counts[i]);
        }
        due(3, "the mood behind " + text, x.pair(0, 3), 2);
        due(3, "the height behind " + text, x.cell(4, 0), 3);
    }

    // trays and bits

    static void tray(TwinSpan x, int tray, int sort, long... values) {
        x.numbers(tray, sort, values.length);
        for (int i = 0; i < values.length; i++) {
            x.write(tray, i, values[i]);
        }
    }

    static long cells(int... all) {
        long bits = 0;
        for (int c : all) {
            bits |= 1L << c;
        }
        return bits;
    }

    static void stand(int promise, String what, TwinSpan x, int p, int one, int two) {
        due(promise, what + ": TWIN 0", x.pair(p, 0), one);
        due(promise, what + ": TWIN 1", x.pair(p, 1), two);
    }

    // whole looks

    /** An object with some of everything: 6 cells, 2 pairs, 5 calls to undo, trays 0 to 2, image 0, a fault, a tape. */
    static void rich(TwinSpan x) {
        tell(x, "field 2 3;row 0 0 2 9;row 1 1 3 4;pair 0 1 errand 1 0 mood 3;pair 5 5 errand 4 2;"
            + "may:hop<4 and not [twin=0 and column=0];costs:hop+height;");
        x.image(0);
        x.mood(1, 4);
        x.lead(0, 1, 3);
        x.wall(2);
        x.put(1, 2, 5);
        x.wall(4);
        tray(x, 0, 1, 11, 20);
        tray(x, 1, 2, 2007, 1004, 10, 3);
        tray(x, 2, 0);
        tell(x, "field 1 9;");
        feedText(x, "field 1 4;pair 2 3;");
    }

    /** Whatever is asked, all that can be seen of the rich object is as if nothing had been. */
    static void unchanged(int promise, Calls asked) {
        unchanged(promise, Asking::rich, asked);
    }

    static void unchanged(int promise, Calls before, Calls asked) {
        TwinSpan x = new TwinSpan();
        before.on(x);
        asked.on(x);
        TwinSpan y = new TwinSpan();
        before.on(y);
        List<String> names = new ArrayList<>();
        List<Long> got = new ArrayList<>();
        List<Long> want = new ArrayList<>();
        probe(x, names, got);
        names.clear();
        probe(y, names, want);
        due(promise, "how much there is to see", got.size(), want.size());
        for (int i = 0; i < got.size() && i < want.size(); i++) {
            due(promise, "unchanged: " + names.get(i), got.get(i), want.get(i));
        }
    }

    private static void probe(TwinSpan x, List<String> names, List<Long> seen) {
        look(x, names, seen);
        for (int t = 0; t < 4; t++) {
            for (int what = 0; what < 4; what++) {
                add(names, seen, "judge " + t + " " + what, x.judge(t, what));
            }
            add(names, seen, "tried " + t, x.tried(t, 0));
            add(names, seen, "moods " + t, x.moods(t, 0));
        }
        for (int p = 0; p < x.count(2); p++) {
            add(names, seen, "stands " + p, x.stands(p));
            add(names, seen, "power " + p, x.power(p));
            add(names, seen, "errands " + p, x.errands(p));
            add(names, seen, "cheapest " + p, x.cheapest(p, 3, -1));
        }
        int left = x.count(6);
        for (int i = 0; i < 11 && left > 0; i++) {
            left = x.undo(1);
            add(names, seen, "undo " + i, left);
            lookPairs(x, names, seen);
        }
        for (int i = 0; i < 2; i++) {
            add(names, seen, "restore " + i, x.restore(i));
            lookPairs(x, names, seen);
        }
        add(names, seen, "field", x.field(x.count(7)));
        look(x, names, seen);
    }

    private static void look(TwinSpan x, List<String> names, List<Long> seen) {
        for (int i = 0; i < 9; i++) {
            add(names, seen, "count " + i, x.count(i));
        }
        add(names, seen, "fault 0", x.fault(0));
        add(names, seen, "fault 1", x.fault(1));
        for (int c = 0; c < x.count(0) * x.count(1); c++) {
            add(names, seen, "cell " + c + " 0", x.cell(c, 0));
            add(names, seen, "cell " + c + " 1", x.cell(c, 1));
        }
        lookPairs(x, names, seen);
    }

    private static void lookPairs(TwinSpan x, List<String> names, List<Long> seen) {
        add(names, seen, "walls", x.count(3));
        for (int p = 0; p < x.count(2); p++) {
            for (int what = 0; what < 7; what++) {
                add(names, seen, "pair " + p + " " + what, x.pair(p, what));
            }
        }
    }

    private static void add(List<String> names, List<Long> seen, String name, long answer) {
        names.add(name);
        seen.add(answer);
    }
}
