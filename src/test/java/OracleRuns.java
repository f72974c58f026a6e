import java.math.BigInteger;
import java.util.ArrayList;
import java.util.Arrays;
import java.util.HashMap;
import java.util.List;
import java.util.Map;
import java.util.Random;
import java.util.TreeMap;

/**
 * Runs of random calls, answered by the program and by a slow reading of the document's words that
 * shares nothing with it; each answer has to be the same.
 */
public final class OracleRuns {
    static int wrong = 0;
    static long calls = 0;

    public static void main(String[] args) {
        int runs = args.length > 1 ? Integer.parseInt(args[1]) : 500;
        long seed = args.length > 2 ? Long.parseLong(args[2]) : 1;
        for (int run = 0; run < runs && wrong < 5; run++) {
            new Run(seed * 1000003 + run).go();
        }
        System.out.println(calls + " calls compared, " + wrong + " wrong");
        if (wrong != 0) {
            System.exit(1);
        }
    }

    /** One run of calls on a new object. */
    static final class Run {
        final Random random;
        final TwinSpan x = new TwinSpan();
        final Oracle o = new Oracle();
        final List<String> log = new ArrayList<>();
        int done = 0;
        boolean bad = false;
        final long seed;

        Run(long seed) {
            this.seed = seed;
            random = new Random(seed);
        }

        void go() {
            int limit = 20 + random.nextInt(490);
            if (random.nextInt(5) != 0) {
                feedField(randomField());
            }
            while (done < limit && !bad) {
                int kind = random.nextInt(100);
                if (kind < 1) {
                    feedField(randomField());
                } else if (kind < 3) {
                    feedField(spoiled(randomField()));
                } else {
                    call(strained(randomCall()));
                }
            }
        }

        void feedField(String text) {
            if (text.length() > 900 || done + text.length() / 20 + 4 > 510) {
                return;
            }
            if (o.tape.length() + (text.length() + 19) / 20 * 20 > 900 || o.tape.length() > 0) {
                call(new long[] {FIELD, 0});
            }
            StringBuilder padded = new StringBuilder(text);
            while (padded.length() % 20 != 0) {
                padded.append(' ');
            }
            for (int i = 0; i < padded.length(); i += 20) {
                long[] c = new long[6];
                c[0] = FEED;
                for (int k = 0; k < 5; k++) {
                    int w = 0;
                    for (int j = 0; j < 4; j++) {
                        w = w << 8 | padded.charAt(i + 4 * k + j) & 255;
                    }
                    c[k + 1] = w;
                }
                call(c);
            }
            call(new long[] {FIELD, text.length()});
            call(new long[] {FAULT, 0});
            call(new long[] {FAULT, 1});
            log.add("  text: " + text);
        }

        int any(int... values) {
            return values[random.nextInt(values.length)];
        }

        int randomPair() {
            int n = o.now.pairs.size();
            return random.nextInt(25) == 0 || n == 0 ? random.nextInt(6) - 2 : random.nextInt(n);
        }

        int randomCell() {
            int n = o.now.rows * o.now.columns;
            return random.nextInt(30) == 0 ? any(-2, -1, n, n + 1, 36, 99, Integer.MAX_VALUE) : random.nextInt(n);
        }

        int goalCell() {
            return random.nextInt(4) == 0 ? -1 : randomCell();
        }

        int randomTwin() {
            return random.nextInt(25) == 0 ? any(-1, 2, 3) : random.nextInt(2);
        }

        int randomWay() {
            return random.nextInt(25) == 0 ? any(-1, 4, 9) : random.nextInt(4);
        }

        /** Of a LEAD in a way. */
        int randomPlace() {
            return random.nextInt(3) == 0 ? random.nextInt(40) : random.nextInt(8) - 1;
        }

        int randomTray() {
            return random.nextInt(25) == 0 ? any(-1, 4, 9) : random.nextInt(4);
        }

        long randomDeed() {
            switch (random.nextInt(8)) {
                case 0: return 1000 + random.nextInt(o.now.rows * o.now.columns);
                case 1: return 2000 + 10 * random.nextInt(3) + random.nextInt(10);
                case 2: return random.nextInt(4) == 0 ? random.nextInt(3000) - 100 : random.nextInt(400);
                default: return 100 * random.nextInt(Math.max(1, o.now.pairs.size())) + 10 * random.nextInt(2) + random.nextInt(4);
            }
        }

        long[] randomCall() {
            int k = random.nextInt(CALLS + 12);
            int p = randomPair();
            switch (k) {
                case FEED: return random.nextInt(3) == 0 ? new long[] {FEED, random.nextInt(), random.nextInt(), 7, 8, 9} : new long[] {COUNT, 7};
                case FIELD: return random.nextInt(6) == 0 ? new long[] {FIELD, any(-1, 0, o.tape.length(), o.tape.length() + 1, o.tape.length() / 2)} : new long[] {FIELD, o.tape.length() + 1};
                case FAULT: return new long[] {k, random.nextInt(5) - 1};
                case CELL: return new long[] {k, randomCell(), random.nextInt(5) - 1};
                case PAIR: return new long[] {k, p, random.nextInt(9) - 1};
                case WHY: return new long[] {k, p, randomTwin(), randomWay()};
                case BY: return new long[] {k, p, randomTwin(), randomWay(), random.nextInt(6) - 1};
                case WALL: return new long[] {k, randomCell()};
                case PUT: return new long[] {k, p, randomCell(), randomCell()};
                case MOOD: return new long[] {k, p, random.nextInt(12) - 1};
                case UNDO: return new long[] {k, random.nextInt(4) == 0 ? random.nextInt(13) - 1 : 1 + random.nextInt(3)};
                case JUDGE: return new long[] {k, randomTray(), random.nextInt(6) - 1};
                case PERFORM: return new long[] {k, randomTray()};
                case DAY: return new long[] {k, random.nextInt(), random.nextInt(15) == 0 ? any(0, -1, 41, 40) : 1 + random.nextInt(40)};
                case SOONEST: case CHEAPEST: case NEEDED: return new long[] {k, p, goalCell(), goalCell()};
                case WAY: case CHEAPWAY: return new long[] {k, p, goalCell(), goalCell(), randomPlace()};
                case ROWS: return new long[] {k, p, goalCell(), goalCell(), random.nextInt(19) - 1};
                case ERRANDS: case STANDS: case POWER: return new long[] {k, p};
                case ERRANDWAY: return new long[] {k, p, randomPlace()};
                case REACH: case FARTHEST: return new long[] {k, p, randomTwin()};
                case ROUND: case FORCES: case BEST: return new long[] {k, p, randomCell()};
                case SPANS: return new long[] {k, p, random.nextInt(14) - 1};
                case TRIED: case MANY: case ATTEMPT: case MOODS: return new long[] {k, randomTray(), p};
                case CHANCE: return new long[] {k, p, randomTwin(), randomCell(), random.nextInt(8) - 1, random.nextInt(40) == 0 ? 2 : random.nextInt(2)};
                case LIKELIEST: return new long[] {k, p, randomTwin(), random.nextInt(8) - 1};
                case NUMBERS: return new long[] {k, randomTray(), random.nextInt(30) == 0 ? any(-1, 4) : random.nextInt(4), random.nextInt(20) == 0 ? any(-1, 41, 40) : random.nextInt(8)};
                case WRITE: case CALLS: case CALLS + 1: case CALLS + 2: case CALLS + 3: case CALLS + 4: return randomWrite();
                case LISTS: return new long[] {k, randomTray(), p, goalCell(), goalCell()};
                case IMAGE: case RESTORE: return new long[] {k, random.nextInt(20) == 0 ? any(-1, 2) : random.nextInt(2)};
                case COUNT: return new long[] {k, random.nextInt(11) - 1};
                default: return new long[] {LEAD, p, randomTwin(), randomWay()};
            }
        }

        /** Now and then one argument is as far out as it can be. */
        long[] strained(long[] c) {
            if (random.nextInt(60) == 0 && c.length > 1) {
                c[1 + random.nextInt(c.length - 1)] = any(Integer.MIN_VALUE, Integer.MAX_VALUE, -1, 100, -1000, 65536);
            }
            return c;
        }

        long[] randomWrite() {
            int tray = randomTray();
            long v;
            if (tray < 2) {
                v = 10 * random.nextInt(4) + random.nextInt(2);
            } else {
                v = randomDeed();
            }
            if (random.nextInt(20) == 0) {
                v = random.nextInt(3) == 0 ? random.nextLong() : random.nextInt(70000) - 35000;
            }
            return new long[] {WRITE, tray, random.nextInt(30) == 0 ? any(-1, 40, 41) : random.nextInt(6), v};
        }

        void call(long[] c) {
            done++;
            calls++;
            long got = ask(x, c);
            long due = o.ask(c);
            StringBuilder row = new StringBuilder(NAMES[(int) c[0]]).append('(');
            for (int i = 1; i < c.length; i++) {
                row.append(i > 1 ? ", " : "").append(c[i]);
            }
            log.add(row.append(") -> ").append(got).toString());
            if (got != due) {
                wrong++;
                bad = true;
                System.out.println("seed " + seed + ", call " + done + ": due is " + due);
                for (int i = Math.max(0, log.size() - 60); i < log.size(); i++) {
                    System.out.println("   " + log.get(i));
                }
            }
        }

        // texts

        String blank() {
            return random.nextInt(6) == 0 ? "\n" : random.nextInt(8) == 0 ? "  " : " ";
        }

        /** No walls, hardly a law: as many stands as there can be. */
        String openField() {
            String law = random.nextBoolean() ? idleCosts() : random.nextBoolean() ? "may:hop<4;" : "costs:twin+column*hop;";
            return "field 6 6;pair " + random.nextInt(36) + " " + random.nextInt(36) + " errand " + random.nextInt(36)
                + " " + random.nextInt(36) + ";" + law;
        }

        /** Corridors to and fro, with a gap here and there: long ways, many cells that are needed. */
        String maze() {
            StringBuilder s = new StringBuilder("field 6 6;");
            for (int r = 1; r < 6; r += 2) {
                int gap = r % 4 == 1 ? 5 : 0;
                s.append("row ").append(r);
                for (int c = 0; c < 6; c++) {
                    s.append(c == gap || random.nextInt(12) == 0 ? " 1" : " 9");
                }
                s.append(";");
            }
            int one = any(0, 1, 2, 5, 17, 29);
            int two = random.nextInt(3) == 0 ? one : any(0, 1, 2, 5, 17, 29);
            s.append("pair ").append(one).append(" ").append(two).append(" errand ");
            s.append(any(24, 26, 29, 12)).append(" ").append(any(0, 24, 25, 30, 5)).append(";");
            if (random.nextInt(3) == 0) {
                s.append("may:").append(mildLaw()).append(";");
            }
            return s.append(idleCosts()).toString();
        }

        /** Steps that cost nothing, so that many ways are equally dear. */
        String idleCosts() {
            switch (random.nextInt(6)) {
                case 0: return "costs:0;";
                case 1: return "costs:twin;";
                case 2: return "costs:hop-1;";
                case 3: return "costs:height*2-row;";
                case 4: return "costs:(column-2)*(column-2)*9;";
                default: return "";
            }
        }

        String randomField() {
            if (random.nextInt(6) == 0) {
                return openField();
            }
            if (random.nextInt(7) == 0) {
                return maze();
            }
            int rows = 1 + random.nextInt(6);
            int columns = 1 + random.nextInt(6);
            if (random.nextInt(4) == 0) {
                rows = 6;
                columns = 6;
            }
            StringBuilder s = new StringBuilder("field" + blank() + rows + blank() + columns + ";");
            boolean[] wall = new boolean[rows * columns];
            for (int r = 0; r < rows; r++) {
                if (random.nextInt(3) != 0) {
                    s.append("row").append(blank()).append(r);
                    for (int c = 0; c < columns; c++) {
                        int h = random.nextInt(7) == 0 ? 9 : random.nextInt(9);
                        wall[r * columns + c] = h == 9;
                        s.append(blank()).append(h);
                    }
                    s.append(";");
                }
            }
            boolean[] taken = wall.clone();
            boolean lawFirst = random.nextBoolean();
            if (lawFirst) {
                laws(s);
            }
            int pairs = 1 + random.nextInt(3);
            for (int p = 0; p < pairs; p++) {
                List<Integer> free = new ArrayList<>();
                for (int c = 0; c < wall.length; c++) {
                    if (!taken[c]) {
                        free.add(c);
                    }
                }
                if (free.isEmpty()) {
                    break;
                }
                int one = free.get(random.nextInt(free.size()));
                int two = free.get(random.nextInt(free.size()));
                s.append("pair").append(blank()).append(one).append(blank()).append(two);
                for (int k = random.nextInt(4); k > 0; k--) {
                    if (random.nextBoolean()) {
                        s.append(" mood ").append(random.nextInt(10));
                    } else {
                        s.append(" errand ").append(random.nextInt(wall.length)).append(" ").append(random.nextInt(wall.length));
                    }
                }
                s.append(random.nextBoolean() ? ";" : " ;\n");
                taken[one] = true;
                taken[two] = true;
            }
            if (!lawFirst || random.nextInt(4) == 0) {
                laws(s);
            }
            return s.toString();
        }

        void laws(StringBuilder s) {
            if (random.nextInt(3) != 0) {
                s.append("may").append(random.nextBoolean() ? ":" : " : ");
                s.append(random.nextInt(3) == 0 ? mildLaw() : truth(random.nextInt(4))).append(";");
            }
            if (random.nextInt(3) != 0) {
                s.append("costs: ").append(sum(random.nextInt(4))).append(";");
            }
        }

        String mildLaw() {
            switch (random.nextInt(5)) {
                case 0: return "height < from + " + (1 + random.nextInt(4));
                case 1: return "not hop > " + (1 + random.nextInt(4)) + " or twin = " + random.nextInt(2);
                case 2: return "mood > " + random.nextInt(6) + " or [row > 0 and column<" + (2 + random.nextInt(5)) + "]";
                case 3: return "not [ height - from > " + (1 + random.nextInt(5)) + " and pair = " + random.nextInt(3) + " ]";
                default: return "height * 1 + mood < " + (4 + random.nextInt(12));
            }
        }

        String truth(int depth) {
            StringBuilder s = new StringBuilder(both(depth));
            while (random.nextInt(3) == 0) {
                s.append(" or ").append(both(depth));
            }
            return s.toString();
        }

        String both(int depth) {
            StringBuilder s = new StringBuilder(unit(depth));
            while (random.nextInt(4) == 0) {
                s.append(" and ").append(unit(depth));
            }
            return s.toString();
        }

        String unit(int depth) {
            if (depth > 0 && random.nextInt(3) == 0) {
                return "not " + unit(depth - 1);
            }
            if (depth > 0 && random.nextInt(3) == 0) {
                return "[" + truth(depth - 1) + "]";
            }
            return sum(depth) + blank() + "=<>".charAt(random.nextInt(3)) + blank() + sum(depth);
        }

        String sum(int depth) {
            StringBuilder s = new StringBuilder(term(depth));
            while (random.nextInt(3) == 0) {
                s.append(random.nextBoolean() ? " + " : "-").append(term(depth));
            }
            return s.toString();
        }

        String term(int depth) {
            StringBuilder s = new StringBuilder(atom(depth));
            while (random.nextInt(4) == 0) {
                s.append("*").append(atom(depth));
            }
            return s.toString();
        }

        String atom(int depth) {
            int k = random.nextInt(12);
            if (k == 0 && depth > 0) {
                return "(" + sum(depth - 1) + ")";
            }
            if (k < 4) {
                return String.valueOf(random.nextInt(8) == 0 ? random.nextInt(1000) : random.nextInt(9));
            }
            return new String[] {"pair", "twin", "mood", "from", "height", "hop", "row", "column"}[random.nextInt(8)];
        }

        String spoiled(String text) {
            StringBuilder s = new StringBuilder(text);
            String[] bits = {"field", "row", "pair 0 0;", "pair", "may", ":", ";", "(", "((((((", "[[[[[[", "not ", "not not not not ", "errand", "mood", "9", "99", "999", "1234", " ", "\n", "\t", "A", "=", "<", "*", ")", "]", "or", "and", "xyz", "-", "\u0000", "\u00e9", "~"};
            for (int k = 1 + random.nextInt(3); k > 0; k--) {
                int at = random.nextInt(s.length() + 1);
                switch (random.nextInt(4)) {
                    case 0:
                        if (at < s.length()) {
                            s.deleteCharAt(at);
                        }
                        break;
                    case 1:
                        s.insert(at, bits[random.nextInt(bits.length)]);
                        break;
                    case 2:
                        if (at < s.length()) {
                            s.setCharAt(at, "0123456789 ;:+-*()[]=<>a".charAt(random.nextInt(24)));
                        }
                        break;
                    default:
                        if (random.nextInt(3) == 0) {
                            s.setLength(at);
                        }
                }
                if (s.length() == 0) {
                    s.append(' ');
                }
            }
            return s.length() > 900 ? s.substring(0, 900) : s.toString();
        }
    }

    static final String[] NAMES = {"feed", "field", "fault", "cell", "pair", "why", "by", "lead", "wall", "put",
        "mood", "undo", "judge", "perform", "day", "soonest", "way", "cheapest", "cheapWay", "rows", "needed",
        "errands", "errandWay", "reach", "stands", "farthest", "round", "spans", "forces", "best", "power",
        "tried", "many", "attempt", "moods", "chance", "likeliest", "numbers", "write", "lists", "image",
        "restore", "count"};
    static final int FEED = 0, FIELD = 1, FAULT = 2, CELL = 3, PAIR = 4, WHY = 5, BY = 6, LEAD = 7, WALL = 8, PUT = 9,
        MOOD = 10, UNDO = 11, JUDGE = 12, PERFORM = 13, DAY = 14, SOONEST = 15, WAY = 16, CHEAPEST = 17, CHEAPWAY = 18,
        ROWS = 19, NEEDED = 20, ERRANDS = 21, ERRANDWAY = 22, REACH = 23, STANDS = 24, FARTHEST = 25, ROUND = 26,
        SPANS = 27, FORCES = 28, BEST = 29, POWER = 30, TRIED = 31, MANY = 32, ATTEMPT = 33, MOODS = 34, CHANCE = 35,
        LIKELIEST = 36, NUMBERS = 37, WRITE = 38, LISTS = 39, IMAGE = 40, RESTORE = 41, COUNT = 42, CALLS = 43;

    static long ask(TwinSpan x, long[] c) {
        int a = c.length > 1 ? (int) c[1] : 0;
        int b = c.length > 2 ? (int) c[2] : 0;
        int d = c.length > 3 ? (int) c[3] : 0;
        int e = c.length > 4 ? (int) c[4] : 0;
        int f = c.length > 5 ? (int) c[5] : 0;
        switch ((int) c[0]) {
            case FEED: return x.feed(a, b, d, e, f);
            case FIELD: return x.field(a);
            case FAULT: return x.fault(a);
            case CELL: return x.cell(a, b);
            case PAIR: return x.pair(a, b);
            case WHY: return x.why(a, b, d);
            case BY: return x.by(a, b, d, e);
            case LEAD: return x.lead(a, b, d);
            case WALL: return x.wall(a);
            case PUT: return x.put(a, b, d);
            case MOOD: return x.mood(a, b);
            case UNDO: return x.undo(a);
            case JUDGE: return x.judge(a, b);
            case PERFORM: return x.perform(a);
            case DAY: return x.day(a, b);
            case SOONEST: return x.soonest(a, b, d);
            case WAY: return x.way(a, b, d, e);
            case CHEAPEST: return x.cheapest(a, b, d);
            case CHEAPWAY: return x.cheapWay(a, b, d, e);
            case ROWS: return x.rows(a, b, d, e);
            case NEEDED: return x.needed(a, b, d);
            case ERRANDS: return x.errands(a);
            case ERRANDWAY: return x.errandWay(a, b);
            case REACH: return x.reach(a, b);
            case STANDS: return x.stands(a);
            case FARTHEST: return x.farthest(a, b);
            case ROUND: return x.round(a, b);
            case SPANS: return x.spans(a, b);
            case FORCES: return x.forces(a, b);
            case BEST: return x.best(a, b);
            case POWER: return x.power(a);
            case TRIED: return x.tried(a, b);
            case MANY: return x.many(a, b);
            case ATTEMPT: return x.attempt(a, b);
            case MOODS: return x.moods(a, b);
            case CHANCE: return x.chance(a, b, d, e, f);
            case LIKELIEST: return x.likeliest(a, b, d);
            case NUMBERS: return x.numbers(a, b, d);
            case WRITE: return x.write(a, b, c[3]);
            case LISTS: return x.lists(a, b, d, e);
            case IMAGE: return x.image(a);
            case RESTORE: return x.restore(a);
            default: return x.count(a);
        }
    }
}

/** A FAULT in a text. */
final class Fault extends RuntimeException {
    final int kind;
    final int place;

    Fault(int kind, int place) {
        super(null, null, false, false);
        this.kind = kind;
        this.place = place;
    }
}

/** A law as a tree. */
abstract class Law {
    abstract long value(Map<String, Integer> names);

    static Law number(long n) {
        return new Law() {
            long value(Map<String, Integer> names) {
                return n;
            }
        };
    }

    static Law name(String word) {
        return new Law() {
            long value(Map<String, Integer> names) {
                return names.get(word);
            }
        };
    }

    static Law joined(String sign, Law a, Law b) {
        return new Law() {
            long value(Map<String, Integer> names) {
                long l = a.value(names);
                long r = b == null ? 0 : b.value(names);
                switch (sign) {
                    case "+": return Math.max(-1000000, Math.min(1000000, l + r));
                    case "-": return Math.max(-1000000, Math.min(1000000, l - r));
                    case "*": return Math.max(-1000000, Math.min(1000000, l * r));
                    case "=": return l == r ? 1 : 0;
                    case "<": return l < r ? 1 : 0;
                    case ">": return l > r ? 1 : 0;
                    case "and": return l != 0 && r != 0 ? 1 : 0;
                    case "or": return l != 0 || r != 0 ? 1 : 0;
                    default: return l != 0 ? 0 : 1;
                }
            }
        };
    }
}

/** A PAIR. */
final class Twins {
    int[] at = new int[2];
    int span;
    int mood;
    int[] errand = {-1, -1};
    boolean[] done = new boolean[2];

    Twins copy() {
        Twins t = new Twins();
        t.at = at.clone();
        t.span = span;
        t.mood = mood;
        t.errand = errand.clone();
        t.done = done.clone();
        return t;
    }
}

/** All that a call can change on the field. */
final class World {
    int rows = 1;
    int columns = 1;
    int lines = 0;
    int[] heights = new int[1];
    boolean[] wall = new boolean[1];
    List<Twins> pairs = new ArrayList<>();
    Law may;
    Law costs;

    World copy() {
        World w = new World();
        w.rows = rows;
        w.columns = columns;
        w.lines = lines;
        w.heights = heights.clone();
        w.wall = wall.clone();
        for (Twins t : pairs) {
            w.pairs.add(t.copy());
        }
        w.may = may;
        w.costs = costs;
        return w;
    }

    int cells() {
        return rows * columns;
    }

    boolean isCell(long c) {
        return c >= 0 && c < cells();
    }

    int apart(int a, int b) {
        return Math.abs(a / columns - b / columns) + Math.abs(a % columns - b % columns);
    }

    boolean free(int p, int c) {
        if (!isCell(c) || wall[c]) {
            return false;
        }
        for (int q = 0; q < pairs.size(); q++) {
            if (q != p && (pairs.get(q).at[0] == c || pairs.get(q).at[1] == c)) {
                return false;
            }
        }
        return true;
    }

    Map<String, Integer> names(int p, int twin, int from, int to) {
        Map<String, Integer> m = new HashMap<>();
        m.put("pair", p);
        m.put("twin", twin);
        m.put("mood", pairs.get(p).mood);
        m.put("from", heights[from]);
        m.put("height", heights[to]);
        m.put("hop", apart(from, to));
        m.put("row", to / columns);
        m.put("column", to % columns);
        return m;
    }

    boolean mayGo(int p, int twin, int from, int to) {
        return may == null || may.value(names(p, twin, from, to)) != 0;
    }

    int cost(int p, int twin, int from, int to) {
        if (costs == null) {
            return apart(from, to);
        }
        return (int) Math.max(0, Math.min(99, costs.value(names(p, twin, from, to))));
    }

    /** {where TWIN 0, TWIN 1 would be, how far the other one hops, the COST}, or {-why}. */
    int[] lead(int p, int twin, int way) {
        if (p < 0 || p >= pairs.size() || twin < 0 || twin > 1 || way < 0 || way > 3) {
            return new int[] {-1};
        }
        Twins t = pairs.get(p);
        int from = t.at[twin];
        int r = from / columns + (way == 0 ? -1 : way == 2 ? 1 : 0);
        int c = from % columns + (way == 1 ? 1 : way == 3 ? -1 : 0);
        if (r < 0 || r >= rows || c < 0 || c >= columns || !free(p, r * columns + c)) {
            return new int[] {-2};
        }
        int to = r * columns + c;
        if (!mayGo(p, twin, from, to)) {
            return new int[] {-3};
        }
        int other = t.at[1 - twin];
        int best = -1;
        for (int k = 0; k < cells(); k++) {
            if (free(p, k) && apart(k, to) == t.span && (k == other || mayGo(p, 1 - twin, other, k))) {
                if (best < 0 || apart(k, other) < apart(best, other)) {
                    best = k;
                }
            }
        }
        if (best < 0) {
            return new int[] {-4};
        }
        int cost = cost(p, twin, from, to) + (best == other ? 0 : cost(p, 1 - twin, other, best));
        return twin == 0 ? new int[] {to, best, apart(other, best), cost} : new int[] {best, to, apart(other, best), cost};
    }

    void settle(int p) {
        Twins t = pairs.get(p);
        for (int k = 0; k < 2; k++) {
            if (t.errand[k] == t.at[k]) {
                t.done[k] = true;
            }
        }
    }

    World at(int p, int one, int two) {
        World w = copy();
        w.pairs.get(p).at = new int[] {one, two};
        return w;
    }

    int doneCount() {
        int n = 0;
        for (Twins t : pairs) {
            n += (t.done[0] ? 1 : 0) + (t.done[1] ? 1 : 0);
        }
        return n;
    }

    /** How many STEPS were gone, or -why. */
    int deed(long v) {
        if (v >= 0 && v < 400) {
            int p = (int) (v / 100);
            int[] l = lead(p, (int) (v / 10 % 10), (int) (v % 10));
            if (l[0] < 0) {
                return l[0];
            }
            pairs.get(p).at = new int[] {l[0], l[1]};
            settle(p);
            return 1 + l[2];
        }
        if (v >= 1000 && v < 1100) {
            return turn((int) v - 1000) < 0 ? turnWhy((int) v - 1000) : 0;
        }
        if (v >= 2000 && v < 2100) {
            int p = (int) (v - 2000) / 10;
            if (p >= pairs.size()) {
                return -1;
            }
            pairs.get(p).mood = (int) (v % 10);
            return 0;
        }
        return -1;
    }

    int turnWhy(int c) {
        if (!isCell(c)) {
            return -1;
        }
        for (Twins t : pairs) {
            if (t.at[0] == c || t.at[1] == c) {
                return -2;
            }
        }
        return 0;
    }

    int turn(int c) {
        if (turnWhy(c) < 0) {
            return -1;
        }
        wall[c] = !wall[c];
        return wall[c] ? 1 : 0;
    }
}

/** Reads a text: all TOKENS first, the FAULT thrown. */
final class Text {
    final List<String> tokens = new ArrayList<>();
    final List<Integer> places = new ArrayList<>();
    int at = 0;
    World w;

    Text(String text) {
        int i = 0;
        while (i < text.length()) {
            char c = text.charAt(i);
            if (c == 10 || c == 32) {
                i++;
                continue;
            }
            int end = i + 1;
            if (c >= 'a' && c <= 'z') {
                while (end < text.length() && text.charAt(end) >= 'a' && text.charAt(end) <= 'z') {
                    end++;
                }
            } else if (c >= '0' && c <= '9') {
                while (end < text.length() && text.charAt(end) >= '0' && text.charAt(end) <= '9') {
                    end++;
                }
            }
            tokens.add(text.substring(i, end));
            places.add(i);
            i = end;
        }
        tokens.add("");
        places.add(text.length());
    }

    String token() {
        String t = tokens.get(at);
        boolean word = t.matches("[a-z]+");
        boolean number = t.matches("[0-9]{1,3}");
        boolean sign = t.length() == 1 && ";:+-*()[]=<>".contains(t);
        if (!t.isEmpty() && !word && !number && !sign) {
            throw new Fault(1, places.get(at));
        }
        return t;
    }

    Fault fault(int kind) {
        return new Fault(kind, places.get(at));
    }

    void take(String wanted) {
        if (!token().equals(wanted)) {
            throw fault(2);
        }
        at++;
    }

    boolean isNumber() {
        return token().matches("[0-9]+");
    }

    int number(int least, int most) {
        if (!isNumber()) {
            throw fault(2);
        }
        int n = Integer.parseInt(token());
        if (n < least || n > most) {
            throw fault(3);
        }
        at++;
        return n;
    }

    World read() {
        w = new World();
        take("field");
        w.rows = number(1, 6);
        w.columns = number(1, 6);
        w.heights = new int[w.cells()];
        w.wall = new boolean[w.cells()];
        take(";");
        w.lines = 1;
        while (!token().isEmpty()) {
            switch (token()) {
                case "row":
                    row();
                    break;
                case "pair":
                    pair();
                    break;
                case "may":
                    at++;
                    take(":");
                    w.may = truth(0);
                    break;
                case "costs":
                    at++;
                    take(":");
                    w.costs = sum(0);
                    break;
                default:
                    throw fault(2);
            }
            take(";");
            w.lines++;
        }
        return w;
    }

    void row() {
        if (!w.pairs.isEmpty()) {
            throw fault(2);
        }
        at++;
        int r = number(0, w.rows - 1);
        for (int c = 0; c < w.columns; c++) {
            int h = number(0, 9);
            w.heights[r * w.columns + c] = h == 9 ? 0 : h;
            w.wall[r * w.columns + c] = h == 9;
        }
    }

    int freeCell() {
        int c = number(0, w.cells() - 1);
        if (!w.free(-1, c)) {
            at--;
            throw fault(3);
        }
        return c;
    }

    void pair() {
        if (w.pairs.size() == 3) {
            throw fault(4);
        }
        at++;
        Twins t = new Twins();
        t.at[0] = freeCell();
        t.at[1] = freeCell();
        t.span = w.apart(t.at[0], t.at[1]);
        while (token().equals("errand") || token().equals("mood")) {
            boolean mood = token().equals("mood");
            at++;
            if (mood) {
                t.mood = number(0, 9);
            } else {
                t.errand[0] = number(0, w.cells() - 1);
                t.errand[1] = number(0, w.cells() - 1);
            }
        }
        w.pairs.add(t);
        w.settle(w.pairs.size() - 1);
    }

    void deeper(int depth) {
        if (depth == 6) {
            throw fault(4);
        }
        at++;
    }

    Law truth(int depth) {
        Law l = both(depth);
        while (token().equals("or")) {
            at++;
            l = Law.joined("or", l, both(depth));
        }
        return l;
    }

    Law both(int depth) {
        Law l = unit(depth);
        while (token().equals("and")) {
            at++;
            l = Law.joined("and", l, unit(depth));
        }
        return l;
    }

    Law unit(int depth) {
        if (token().equals("not")) {
            deeper(depth);
            return Law.joined("not", unit(depth + 1), null);
        }
        if (token().equals("[")) {
            deeper(depth);
            Law l = truth(depth + 1);
            take("]");
            return l;
        }
        Law l = sum(depth);
        String sign = token();
        if (!sign.equals("=") && !sign.equals("<") && !sign.equals(">")) {
            throw fault(2);
        }
        at++;
        return Law.joined(sign, l, sum(depth));
    }

    Law sum(int depth) {
        Law l = term(depth);
        while (token().equals("+") || token().equals("-")) {
            String sign = token();
            at++;
            l = Law.joined(sign, l, term(depth));
        }
        return l;
    }

    Law term(int depth) {
        Law l = atom(depth);
        while (token().equals("*")) {
            at++;
            l = Law.joined("*", l, atom(depth));
        }
        return l;
    }

    Law atom(int depth) {
        if (isNumber()) {
            return Law.number(number(0, 999));
        }
        if (token().equals("(")) {
            deeper(depth);
            Law l = sum(depth + 1);
            take(")");
            return l;
        }
        if (!Arrays.asList("pair", "twin", "mood", "from", "height", "hop", "row", "column").contains(token())) {
            throw fault(2);
        }
        at++;
        return Law.name(tokens.get(at - 1));
    }
}

/** A way to somewhere: its COST and its LEADS. */
final class Path implements Comparable<Path> {
    final int cost;
    final List<Integer> leads;

    Path(int cost, List<Integer> leads) {
        this.cost = cost;
        this.leads = leads;
    }

    Path and(int more, int lead) {
        List<Integer> l = new ArrayList<>(leads);
        l.add(lead);
        return new Path(cost + more, l);
    }

    public int compareTo(Path o) {
        if (cost != o.cost) {
            return Integer.compare(cost, o.cost);
        }
        if (leads.size() != o.leads.size()) {
            return Integer.compare(leads.size(), o.leads.size());
        }
        for (int i = 0; i < leads.size(); i++) {
            if (!leads.get(i).equals(o.leads.get(i))) {
                return Integer.compare(leads.get(i), o.leads.get(i));
            }
        }
        return 0;
    }
}

/** The slow program. */
final class Oracle {
    StringBuilder tape = new StringBuilder();
    World now = new World();
    List<World> past = new ArrayList<>();
    int faultKind = 0;
    int faultPlace = -1;
    int[] sorts = {-1, -1, -1, -1};
    long[][] trays = new long[4][];
    World[] images = new World[2];

    long ask(long[] c) {
        int a = c.length > 1 ? (int) c[1] : 0;
        int b = c.length > 2 ? (int) c[2] : 0;
        int d = c.length > 3 ? (int) c[3] : 0;
        int e = c.length > 4 ? (int) c[4] : 0;
        int f = c.length > 5 ? (int) c[5] : 0;
        int k = (int) c[0];
        switch (k) {
            case OracleRuns.FEED: return feed(c);
            case OracleRuns.FIELD: return field(a);
            case OracleRuns.FAULT: return a == 0 ? faultKind : a == 1 ? faultPlace : -1;
            case OracleRuns.CELL: return cell(a, b);
            case OracleRuns.PAIR: return pair(a, b);
            case OracleRuns.WHY: return Math.max(0, -now.lead(a, b, d)[0]);
            case OracleRuns.BY: {
                if (e < 0 || e > 3) {
                    return -2;
                }
                int[] l = now.lead(a, b, d);
                return l[0] < 0 ? -5 : l[e];
            }
            case OracleRuns.LEAD: {
                int[] l = now.lead(a, b, d);
                if (l[0] < 0) {
                    return -10 + l[0];
                }
                keep();
                now.deed(100 * a + 10 * b + d);
                return l[3];
            }
            case OracleRuns.WALL: {
                if (now.turnWhy(a) < 0) {
                    return -10 + now.turnWhy(a);
                }
                keep();
                return now.turn(a);
            }
            case OracleRuns.PUT: return put(a, b, d);
            case OracleRuns.MOOD: {
                if (!isPair(a) || b < 0 || b > 9) {
                    return -11;
                }
                keep();
                int was = now.pairs.get(a).mood;
                now.pairs.get(a).mood = b;
                return was;
            }
            case OracleRuns.UNDO: {
                if (a < 1 || a > 10 || a > past.size()) {
                    return -3;
                }
                for (int i = 0; i < a; i++) {
                    now = past.remove(past.size() - 1);
                }
                return past.size();
            }
            case OracleRuns.JUDGE: return judge(a, b);
            case OracleRuns.PERFORM: return perform(a);
            case OracleRuns.DAY: return day(a, b);
            case OracleRuns.ERRANDS: case OracleRuns.ERRANDWAY: return errands(k, a, b);
            case OracleRuns.REACH: case OracleRuns.FARTHEST: return getting(k, a, b);
            case OracleRuns.STANDS: return isPair(a) ? soonestPaths(now, a).size() : -2;
            case OracleRuns.ROUND: return round(a, b);
            case OracleRuns.SPANS: return spans(a, b);
            case OracleRuns.FORCES: case OracleRuns.BEST: return !isPair(a) || !now.isCell(b) ? -2 : forcing(a, b, k == OracleRuns.BEST);
            case OracleRuns.POWER: {
                if (!isPair(a)) {
                    return -2;
                }
                long bits = 0;
                for (int i = 0; i < now.cells(); i++) {
                    bits |= forcing(a, i, false) < 0 ? 0 : 1L << i;
                }
                return bits;
            }
            case OracleRuns.TRIED: case OracleRuns.MANY: case OracleRuns.ATTEMPT: case OracleRuns.MOODS: return tries(k, a, b);
            case OracleRuns.CHANCE: case OracleRuns.LIKELIEST: return chances(k, c);
            case OracleRuns.NUMBERS: {
                if (!isTray(a) || b < 0 || b > 3) {
                    return -2;
                }
                if (d < 0 || d > 40) {
                    return -3;
                }
                sorts[a] = b;
                trays[a] = new long[d];
                return 0;
            }
            case OracleRuns.WRITE: {
                if (!isTray(a)) {
                    return -2;
                }
                if (trays[a] == null) {
                    return -6;
                }
                if (b < 0 || b >= trays[a].length) {
                    return -7;
                }
                return trays[a][b] = cut(sorts[a], c[3]);
            }
            case OracleRuns.IMAGE: {
                if (a < 0 || a > 1) {
                    return -2;
                }
                images[a] = now.copy();
                return 0;
            }
            case OracleRuns.RESTORE: {
                if (a < 0 || a > 1) {
                    return -2;
                }
                if (images[a] == null) {
                    return -5;
                }
                now = images[a].copy();
                past.clear();
                return 0;
            }
            case OracleRuns.COUNT: return count(a);
            default: return coming(k, a, b, d, e);
        }
    }

    long cut(int sort, long v) {
        int bits = 8 << sort;
        return v << 64 - bits >> 64 - bits;
    }

    boolean isPair(int p) {
        return p >= 0 && p < now.pairs.size();
    }

    boolean isTray(int t) {
        return t >= 0 && t < 4;
    }

    void keep() {
        past.add(now.copy());
        if (past.size() > 10) {
            past.remove(0);
        }
    }

    long feed(long[] c) {
        if (tape.length() + 20 > 900) {
            return -5;
        }
        for (int i = 1; i < 6; i++) {
            for (int k = 3; k >= 0; k--) {
                tape.append((char) (c[i] >> 8 * k & 255));
            }
        }
        return tape.length();
    }

    long field(int n) {
        if (n < 0 || n > tape.length()) {
            return -3;
        }
        String text = tape.substring(0, n);
        tape.setLength(0);
        try {
            World w = new Text(text).read();
            now = w;
            past.clear();
            faultKind = 0;
            faultPlace = -1;
            return w.lines;
        } catch (Fault f) {
            faultKind = f.kind;
            faultPlace = f.place;
            return -30 - f.kind;
        }
    }

    long cell(int c, int what) {
        if (!now.isCell(c) || what < 0 || what > 2) {
            return -2;
        }
        if (what == 0) {
            return now.wall[c] ? 9 : now.heights[c];
        }
        int n = 0;
        int first = -1;
        for (int p = now.pairs.size() - 1; p >= 0; p--) {
            for (int k = 0; k < 2; k++) {
                if (now.pairs.get(p).at[k] == c) {
                    n++;
                    first = p;
                }
            }
        }
        return what == 1 ? n : first;
    }

    long pair(int p, int what) {
        if (!isPair(p)) {
            return -2;
        }
        Twins t = now.pairs.get(p);
        long[] all = {t.at[0], t.at[1], t.span, t.mood, t.errand[0], t.errand[1], (t.done[0] ? 1 : 0) + (t.done[1] ? 2 : 0)};
        return what < 0 || what > 6 ? -2 : all[what];
    }

    long put(int p, int one, int two) {
        if (!isPair(p) || !now.isCell(one) || !now.isCell(two)) {
            return -11;
        }
        if (!now.free(p, one) || !now.free(p, two)) {
            return -12;
        }
        keep();
        Twins t = now.pairs.get(p);
        t.at = new int[] {one, two};
        t.span = now.apart(one, two);
        t.done = new boolean[2];
        now.settle(p);
        return t.span;
    }

    long judge(int tray, int what) {
        if (!isTray(tray) || what < 0 || what > 3) {
            return -2;
        }
        if (trays[tray] == null) {
            return -6;
        }
        World w = now.copy();
        int steps = 0;
        int place = -1;
        int why = 0;
        for (int i = 0; i < trays[tray].length && place < 0; i++) {
            int went = w.deed(trays[tray][i]);
            if (went < 0) {
                place = i;
                why = -went;
            } else {
                steps += went;
            }
        }
        return new long[] {place, why, w.doneCount(), steps}[what];
    }

    long perform(int tray) {
        if (!isTray(tray)) {
            return -2;
        }
        if (trays[tray] == null) {
            return -6;
        }
        World was = now.copy();
        int n = 0;
        while (n < trays[tray].length && now.deed(trays[tray][n]) >= 0) {
            n++;
        }
        keepWas(was, n);
        return n;
    }

    void keepWas(World was, int n) {
        if (n > 0) {
            past.add(was);
            if (past.size() > 10) {
                past.remove(0);
            }
        }
    }

    int x;

    int draw(int modulo) {
        x = 1103515245 * x + 12345;
        return (x >>> 16) % modulo;
    }

    long day(int seed, int times) {
        if (times < 1 || times > 40) {
            return -3;
        }
        World was = now.copy();
        x = seed;
        int n = 0;
        for (int i = 0; i < times; i++) {
            long v;
            if (draw(6) == 5) {
                v = 1000 + draw(36);
            } else {
                int twin = draw(2);
                int p = draw(3);
                v = 100 * p + 10 * twin + draw(4);
            }
            n += now.deed(v) >= 0 ? 1 : 0;
        }
        keepWas(was, n);
        return n;
    }

    static int[] stand(int key) {
        return new int[] {key / 100, key % 100};
    }

    /** To each stand the cheapest way, of like ones the fewest LEADS, of like ones the first. */
    Map<Integer, Path> paths(World w, int p, boolean byCost) {
        Map<Integer, Path> best = new TreeMap<>();
        Twins t = w.pairs.get(p);
        best.put(100 * t.at[0] + t.at[1], new Path(0, new ArrayList<>()));
        List<Integer> todo = new ArrayList<>(best.keySet());
        Map<Integer, int[][]> leads = new HashMap<>();
        while (!todo.isEmpty()) {
            List<Integer> later = new ArrayList<>();
            for (int key : todo) {
                int[][] all = leads.computeIfAbsent(key, s -> leadsAt(w, p, s));
                for (int m = 0; m < 8; m++) {
                    if (all[m][0] >= 0) {
                        int to = 100 * all[m][0] + all[m][1];
                        Path path = best.get(key).and(byCost ? all[m][3] : 0, m / 4 * 10 + m % 4);
                        Path old = best.get(to);
                        if (old == null || path.compareTo(old) < 0) {
                            best.put(to, path);
                            if (!later.contains(to)) {
                                later.add(to);
                            }
                        }
                    }
                }
            }
            todo = later;
        }
        return best;
    }

    int[][] leadsAt(World w, int p, int key) {
        World there = w.at(p, key / 100, key % 100);
        int[][] all = new int[8][];
        for (int m = 0; m < 8; m++) {
            all[m] = there.lead(p, m / 4, m % 4);
        }
        return all;
    }

    Map<Integer, Path> soonestPaths(World w, int p) {
        return paths(w, p, false);
    }

    boolean fits(int key, int one, int two) {
        return (one == -1 || key / 100 == one) && (two == -1 || key % 100 == two);
    }

    Path first(Map<Integer, Path> all, int one, int two) {
        Path best = null;
        for (Map.Entry<Integer, Path> e : all.entrySet()) {
            if (fits(e.getKey(), one, two) && (best == null || e.getValue().compareTo(best) < 0)) {
                best = e.getValue();
            }
        }
        return best;
    }

    long coming(int k, int a, int b, int d, int e) {
        if (k == OracleRuns.LISTS) {
            if (!isTray(a) || !isGoal(b, d, e)) {
                return -2;
            }
            if (trays[a] == null) {
                return -6;
            }
            Path path = first(paths(now, b, false), d, e);
            if (path == null) {
                return -5;
            }
            int n = 0;
            while (n < path.leads.size() && n < trays[a].length) {
                trays[a][n] = cut(sorts[a], 100 * b + path.leads.get(n));
                n++;
            }
            return n;
        }
        if (!isGoal(a, b, d)) {
            return -2;
        }
        boolean byCost = k == OracleRuns.CHEAPEST || k == OracleRuns.CHEAPWAY;
        if ((k == OracleRuns.WAY || k == OracleRuns.CHEAPWAY) && e < 0) {
            return -3;
        }
        if (k == OracleRuns.ROWS) {
            return e < 0 || e > 15 ? -3 : rows(a, b, d, e);
        }
        if (k == OracleRuns.NEEDED) {
            return needed(a, b, d);
        }
        Path path = first(paths(now, a, byCost), b, d);
        if (path == null) {
            return -1;
        }
        if (k == OracleRuns.SOONEST) {
            return path.leads.size();
        }
        if (k == OracleRuns.CHEAPEST) {
            return path.cost;
        }
        return e < path.leads.size() ? path.leads.get(e) : -1;
    }

    boolean isGoal(int p, int one, int two) {
        return isPair(p) && (one == -1 || now.isCell(one)) && (two == -1 || now.isCell(two));
    }

    long rows(int p, int one, int two, int n) {
        Twins t = now.pairs.get(p);
        return rowsFrom(p, 100 * t.at[0] + t.at[1], one, two, n, new HashMap<>(), new HashMap<>());
    }

    long rowsFrom(int p, int key, int one, int two, int n, Map<Integer, Long> known, Map<Integer, int[][]> leads) {
        if (n == 0) {
            return fits(key, one, two) ? 1 : 0;
        }
        Long old = known.get(key * 16 + n);
        if (old != null) {
            return old;
        }
        long sum = 0;
        int[][] all = leads.computeIfAbsent(key, s -> leadsAt(now, p, s));
        for (int m = 0; m < 8; m++) {
            if (all[m][0] >= 0) {
                sum += rowsFrom(p, 100 * all[m][0] + all[m][1], one, two, n - 1, known, leads);
            }
        }
        known.put(key * 16 + n, sum);
        return sum;
    }

    boolean canCome(World w, int p, int one, int two) {
        Map<Integer, Boolean> seen = new HashMap<>();
        List<Integer> todo = new ArrayList<>();
        Twins t = w.pairs.get(p);
        todo.add(100 * t.at[0] + t.at[1]);
        while (!todo.isEmpty()) {
            int key = todo.remove(todo.size() - 1);
            if (seen.put(key, true) != null) {
                continue;
            }
            if (fits(key, one, two)) {
                return true;
            }
            for (int[] l : leadsAt(w, p, key)) {
                if (l[0] >= 0) {
                    todo.add(100 * l[0] + l[1]);
                }
            }
        }
        return false;
    }

    long needed(int p, int one, int two) {
        if (!canCome(now, p, one, two)) {
            return 0;
        }
        long bits = 0;
        for (int c = 0; c < now.cells(); c++) {
            Twins t = now.pairs.get(p);
            if (!now.wall[c] && t.at[0] != c && t.at[1] != c) {
                World w = now.copy();
                w.wall[c] = true;
                bits |= canCome(w, p, one, two) ? 0 : 1L << c;
            }
        }
        return bits;
    }

    long errands(int k, int p, int i) {
        if (!isPair(p)) {
            return -2;
        }
        if (k == OracleRuns.ERRANDWAY && i < 0) {
            return -3;
        }
        Path path = errandPath(p);
        if (path == null) {
            return -1;
        }
        if (k == OracleRuns.ERRANDS) {
            return path.leads.size();
        }
        return i < path.leads.size() ? path.leads.get(i) : -1;
    }

    Path errandPath(int p) {
        Twins t = now.pairs.get(p);
        Map<Integer, Path> seen = new TreeMap<>();
        Map<Integer, Path> layer = new TreeMap<>();
        Map<Integer, int[][]> leads = new HashMap<>();
        int done = (t.done[0] || t.errand[0] < 0 ? 1 : 0) + (t.done[1] || t.errand[1] < 0 ? 2 : 0);
        layer.put(done * 10000 + 100 * t.at[0] + t.at[1], new Path(0, new ArrayList<>()));
        while (!layer.isEmpty()) {
            Path best = null;
            for (Map.Entry<Integer, Path> e : layer.entrySet()) {
                if (e.getKey() / 10000 == 3 && (best == null || e.getValue().compareTo(best) < 0)) {
                    best = e.getValue();
                }
            }
            if (best != null) {
                return best;
            }
            seen.putAll(layer);
            Map<Integer, Path> later = new TreeMap<>();
            for (Map.Entry<Integer, Path> e : layer.entrySet()) {
                int key = e.getKey() % 10000;
                int[][] all = leads.computeIfAbsent(key, s -> leadsAt(now, p, s));
                for (int m = 0; m < 8; m++) {
                    if (all[m][0] < 0) {
                        continue;
                    }
                    int d = e.getKey() / 10000 | (all[m][0] == t.errand[0] ? 1 : 0) | (all[m][1] == t.errand[1] ? 2 : 0);
                    int to = d * 10000 + all[m][0] * 100 + all[m][1];
                    Path path = e.getValue().and(0, m / 4 * 10 + m % 4);
                    if (!seen.containsKey(to) && (!later.containsKey(to) || path.compareTo(later.get(to)) < 0)) {
                        later.put(to, path);
                    }
                }
            }
            layer = later;
        }
        return null;
    }

    long getting(int k, int p, int twin) {
        if (!isPair(p) || twin < 0 || twin > 1) {
            return -2;
        }
        int[] fewest = new int[now.cells()];
        Arrays.fill(fewest, -1);
        for (Map.Entry<Integer, Path> e : soonestPaths(now, p).entrySet()) {
            int c = stand(e.getKey())[twin];
            int n = e.getValue().leads.size();
            fewest[c] = fewest[c] < 0 ? n : Math.min(fewest[c], n);
        }
        long bits = 0;
        int far = -1;
        for (int c = 0; c < fewest.length; c++) {
            bits |= fewest[c] < 0 ? 0 : 1L << c;
            if (fewest[c] >= 0 && (far < 0 || fewest[c] > fewest[far])) {
                far = c;
            }
        }
        return k == OracleRuns.REACH ? bits : far;
    }

    long round(int p, int c) {
        if (!isPair(p) || !now.isCell(c)) {
            return -2;
        }
        long bits = 0;
        for (int i = 0; i < now.cells(); i++) {
            bits |= now.free(p, i) && now.apart(i, c) == now.pairs.get(p).span ? 1L << i : 0;
        }
        return bits;
    }

    long spans(int p, int n) {
        if (!isPair(p)) {
            return -2;
        }
        if (n < 0 || n > 10) {
            return -3;
        }
        long sum = 0;
        for (int a = 0; a < now.cells(); a++) {
            for (int b = 0; b < now.cells(); b++) {
                sum += now.free(p, a) && now.free(p, b) && now.apart(a, b) == n ? 1 : 0;
            }
        }
        return sum;
    }

    /** By rounds: within 0 LEADS, within 1, .. till nothing is won any more. */
    long forcing(int p, int c, boolean best) {
        Twins t = now.pairs.get(p);
        List<Integer> keys = new ArrayList<>(soonestPaths(now, p).keySet());
        Map<Integer, int[][]> leads = new HashMap<>();
        for (int key : keys) {
            leads.put(key, leadsAt(now, p, key));
        }
        Map<Integer, Integer> level = new HashMap<>();
        for (int key : keys) {
            if (key / 100 == c) {
                level.put(2 * key, 0);
                level.put(2 * key + 1, 0);
            }
        }
        int here = 100 * t.at[0] + t.at[1];
        boolean more = true;
        for (int n = 1; more; n++) {
            Map<Integer, Integer> won = new HashMap<>();
            for (int key : keys) {
                for (int turn = 0; turn < 2; turn++) {
                    if (level.containsKey(2 * key + turn)) {
                        continue;
                    }
                    int can = 0;
                    int good = 0;
                    for (int d = 0; d < 4; d++) {
                        int[] l = leads.get(key)[4 * turn + d];
                        if (l[0] >= 0) {
                            can++;
                            good += level.containsKey(2 * (100 * l[0] + l[1]) + 1 - turn) ? 1 : 0;
                        }
                    }
                    if (can == 0) {
                        can = 1;
                        good = level.containsKey(2 * key + 1 - turn) ? 1 : 0;
                    }
                    if (turn == 0 ? good > 0 : good == can) {
                        won.put(2 * key + turn, n);
                    }
                }
            }
            level.putAll(won);
            more = !won.isEmpty();
        }
        Integer now0 = level.get(2 * here);
        if (!best) {
            return now0 == null ? -1 : now0;
        }
        if (now0 == null || now0 == 0) {
            return -1;
        }
        for (int d = 0; d < 4; d++) {
            int[] l = leads.get(here)[d];
            if (l[0] >= 0) {
                Integer then = level.get(2 * (100 * l[0] + l[1]) + 1);
                if (then != null && then == now0 - 1) {
                    return d;
                }
            }
        }
        return -1;
    }

    long tries(int k, int tray, int p) {
        if (!isTray(tray) || !isPair(p)) {
            return -2;
        }
        if (trays[tray] == null) {
            return -6;
        }
        long[] all = trays[tray];
        if (all.length < 1 || all.length > 12) {
            return -4;
        }
        for (long v : all) {
            if (!Arrays.asList(0L, 1L, 10L, 11L, 20L, 21L, 30L, 31L).contains(v)) {
                return -3;
            }
        }
        Twins t = now.pairs.get(p);
        if (k == OracleRuns.MOODS) {
            long bits = 0;
            for (int m = 0; m < 10; m++) {
                World w = now.copy();
                w.pairs.get(p).mood = m;
                bits |= behind(w, p, all) == null ? 0 : 1 << m;
            }
            return bits;
        }
        long bits = 0;
        int n = 0;
        int[] could = new int[4];
        for (int c = 0; c < now.cells(); c++) {
            if (now.free(p, c) && now.apart(c, t.at[0]) == t.span) {
                World w = behind(now.at(p, t.at[0], c), p, all);
                if (w != null) {
                    bits |= 1L << c;
                    n++;
                    for (int d = 0; d < 4; d++) {
                        could[d] += w.lead(p, 0, d)[0] >= 0 ? 1 : 0;
                    }
                }
            }
        }
        if (k == OracleRuns.TRIED) {
            return bits;
        }
        if (k == OracleRuns.MANY) {
            return n;
        }
        int best = -1;
        for (int d = 3; d >= 0 && n > 0; d--) {
            if (best < 0 || Math.min(could[d], n - could[d]) >= Math.min(could[best], n - could[best])) {
                best = d;
            }
        }
        return best;
    }

    World behind(World w, int p, long[] all) {
        for (long v : all) {
            int[] l = w.lead(p, 0, (int) v / 10);
            if (l[0] >= 0 != (v % 10 == 1)) {
                return null;
            }
            if (l[0] >= 0) {
                w = w.at(p, l[0], l[1]);
            }
        }
        return w;
    }

    long chances(int k, long[] c) {
        int p = (int) c[1];
        int twin = (int) c[2];
        boolean one = k == OracleRuns.CHANCE;
        int n = (int) (one ? c[4] : c[3]);
        if (!isPair(p) || twin < 0 || twin > 1 || one && (!now.isCell(c[3]) || c[5] < 0 || c[5] > 1)) {
            return -2;
        }
        if (n < 0 || n > 5) {
            return -3;
        }
        Twins t = now.pairs.get(p);
        Map<Integer, BigInteger[]> odds = new TreeMap<>();
        odds.put(100 * t.at[0] + t.at[1], new BigInteger[] {BigInteger.ONE, BigInteger.ONE});
        for (int i = 0; i < n; i++) {
            Map<Integer, BigInteger[]> then = new TreeMap<>();
            for (Map.Entry<Integer, BigInteger[]> e : odds.entrySet()) {
                List<Integer> can = new ArrayList<>();
                for (int[] l : leadsAt(now, p, e.getKey())) {
                    if (l[0] >= 0) {
                        can.add(100 * l[0] + l[1]);
                    }
                }
                if (can.isEmpty()) {
                    can.add(e.getKey());
                }
                for (int to : can) {
                    BigInteger[] part = {e.getValue()[0], e.getValue()[1].multiply(BigInteger.valueOf(can.size()))};
                    then.merge(to, part, Oracle::plus);
                }
            }
            odds = then;
        }
        BigInteger[][] at = new BigInteger[now.cells()][];
        for (int i = 0; i < at.length; i++) {
            at[i] = new BigInteger[] {BigInteger.ZERO, BigInteger.ONE};
        }
        for (Map.Entry<Integer, BigInteger[]> e : odds.entrySet()) {
            int i = stand(e.getKey())[twin];
            at[i] = plus(at[i], e.getValue());
        }
        if (one) {
            return at[(int) c[3]][(int) c[5]].longValueExact();
        }
        int best = 0;
        for (int i = 1; i < at.length; i++) {
            best = at[i][0].multiply(at[best][1]).compareTo(at[best][0].multiply(at[i][1])) > 0 ? i : best;
        }
        return best;
    }

    static BigInteger[] plus(BigInteger[] a, BigInteger[] b) {
        BigInteger above = a[0].multiply(b[1]).add(b[0].multiply(a[1]));
        BigInteger below = a[1].multiply(b[1]);
        BigInteger common = above.gcd(below);
        return new BigInteger[] {above.divide(common), below.divide(common)};
    }

    long count(int what) {
        int walls = 0;
        int spans = 0;
        for (boolean w : now.wall) {
            walls += w ? 1 : 0;
        }
        for (Twins t : now.pairs) {
            spans += t.span;
        }
        long[] all = {now.rows, now.columns, now.pairs.size(), walls, spans, now.doneCount(), past.size(), tape.length(), now.lines};
        return what < 0 || what >= all.length ? -1 : all[what];
    }
}
