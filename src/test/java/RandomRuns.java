import java.util.ArrayDeque;
import java.util.ArrayList;
import java.util.Arrays;
import java.util.List;
import java.util.Random;
import java.util.regex.Matcher;
import java.util.regex.Pattern;

/** Random runs of calls, each answer compared with that of a plain second writing of the document. */
public final class RandomRuns {
    private static final int NONE = -1;
    private static final int RUNS = 240;
    private static final int CALLS = 512;
    /** One step of a run makes no more: four times row() with all that next() and late() tell of it. */
    private static final int MOST_CALLS_OF_A_STEP = 100;
    private static final int MOST_SHOWN = 20;

    private static int wrong = 0;
    private static long checks = 0;

    private RandomRuns() {
    }

    /** With an argument only the run of that seed is made. */
    public static void main(String[] args) {
        int first = args.length > 0 ? Integer.parseInt(args[0]) : 0;
        int last = args.length > 0 ? first : RUNS - 1;
        for (int seed = first; seed <= last && wrong == 0; seed++) {
            new Run(seed).go();
        }
        System.out.println(checks + " answers to random calls, " + wrong + " of them wrong");
        if (wrong != 0) {
            System.exit(1);
        }
    }

    /** One object's calls beside those of the plain works. */
    private static final class Run {
        private final int seed;
        private final Random random;
        private final CastWorks x = new CastWorks();
        private final PlainWorks y = new PlainWorks();
        private final List<String> calls = new ArrayList<>();
        private final int greatest;

        Run(int seed) {
            this.seed = seed;
            this.random = new Random(seed);
            this.greatest = 3 + seed % 6;
        }

        void go() {
            while (calls.size() <= CALLS - MOST_CALLS_OF_A_STEP && wrong == 0) {
                switch (random.nextInt(6)) {
                    case 0:
                        newForm();
                        break;
                    case 1:
                        lookAtForm();
                        break;
                    case 2:
                        pours();
                        break;
                    case 3:
                        orders();
                        break;
                    case 4:
                        casts();
                        break;
                    default:
                        rawTape();
                        break;
                }
            }
        }

        private int upTo(int most) {
            return random.nextInt(most + 1);
        }

        private int side() {
            return Math.max(1 + upTo(greatest - 1), 1 + upTo(greatest - 1));
        }

        /** Mostly within, now and then at or beyond the edges. */
        private int around(int from, int to) {
            switch (random.nextInt(24)) {
                case 0:
                    return from - 1;
                case 1:
                    return to + 1;
                case 2:
                    return random.nextInt();
                case 3:
                    return from;
                case 4:
                    return to;
                default:
                    return from + random.nextInt(to - from + 1);
            }
        }

        private void due(String call, long got, long want) {
            calls.add(call + " = " + got);
            checks++;
            if (got != want) {
                wrong++;
                System.out.println("seed " + seed + ": " + call + " answered " + got + ", due is " + want);
                int first = Math.max(0, calls.size() - MOST_SHOWN);
                System.out.println(String.join("\n", calls.subList(first, calls.size())));
            }
        }

        private void due(String call, boolean got, boolean want) {
            due(call, got ? 1 : 0, want ? 1 : 0);
        }

        private String statement(int wide, int high) {
            String gap = random.nextInt(30) == 0 ? " \n" : " ";
            switch (random.nextInt(8)) {
                case 0:
                    return "mirror" + gap + "xyz".charAt(random.nextInt(3)) + ";";
                case 1:
                    return wide == high || random.nextInt(12) == 0 ? "turn;" + gap : "";
                default:
                    StringBuilder text = new StringBuilder(random.nextInt(5) < 3 ? "box" : "hole");
                    for (int i = 0; i < 3; i++) {
                        text.append(gap).append(random.nextInt(20) == 0 ? upTo(9) : upTo(greatest - 1));
                    }
                    for (int i = 0; i < 3; i++) {
                        text.append(' ').append(random.nextInt(60) == 0 ? 0 : 1 + upTo(random.nextBoolean() ? 8 : 2));
                    }
                    return text.append(';').toString();
            }
        }

        /** A hole in one of the six sides, which needs a way of its own if it is narrow. */
        private String pit(int wide, int high, int deep) {
            int[] from = {random.nextInt(wide), random.nextInt(high), random.nextInt(deep)};
            int[] sides = {wide, high, deep};
            int axis = random.nextInt(3);
            int[] lengths = {1, 1, 1};
            lengths[axis] = 1 + upTo(Math.min(1, sides[axis] / 2));
            from[axis] = random.nextBoolean() ? 0 : Math.max(0, sides[axis] - lengths[axis]);
            return "hole " + from[0] + " " + from[1] + " " + from[2]
                    + " " + lengths[0] + " " + lengths[1] + " " + lengths[2] + ";";
        }

        private String text(int wide, int high, int deep) {
            StringBuilder text = new StringBuilder();
            boolean pitted = random.nextBoolean();
            int statements = upTo(pitted ? 19 : 10);
            if (pitted || random.nextBoolean()) {
                text.append("box 0 0 0 9 9 9;");
            }
            for (int i = 0; i < statements; i++) {
                text.append(pitted ? pit(wide, high, deep) : statement(wide, high));
            }
            if (random.nextInt(4) == 0 && text.length() > 0) {
                spoil(text);
            }
            return text.length() > 400 ? text.substring(0, 400) : text.toString();
        }

        private void spoil(StringBuilder text) {
            String signs = "boxhlemirrturnxyz0123456789;; \n\t#A\u00e9\u0000";
            int place = random.nextInt(text.length());
            char sign = signs.charAt(random.nextInt(signs.length()));
            switch (random.nextInt(4)) {
                case 0:
                    text.setCharAt(place, sign);
                    break;
                case 1:
                    text.insert(place, sign);
                    break;
                case 2:
                    text.deleteCharAt(place);
                    break;
                default:
                    text.setLength(place);
                    break;
            }
        }

        private void newForm() {
            int wide = side();
            int high = random.nextInt(3) == 0 ? wide : side();
            int deep = side();
            String text = text(wide, high, deep);
            end(0);
            for (int i = 0; i < text.length(); i += 20) {
                feed(four(text, i), four(text, i + 4), four(text, i + 8), four(text, i + 12), four(text, i + 16));
            }
            end(text.length());
            if (random.nextInt(12) == 0) {
                form(around(1, 8), around(1, 8), around(1, 8), text);
            }
            form(wide, high, deep, text);
            due("fault(0)", x.fault(0), y.fault(0));
            due("fault(1)", x.fault(1), y.fault(1));
            due("shut()", x.shut(), y.shut());
            if (random.nextInt(5) > 0) {
                draw();
            }
        }

        private void draw() {
            due("draw()", x.draw(), y.draw());
            for (int i = 0; i < 7; i++) {
                due("way(" + i + ")", x.way(i), y.way(i));
            }
        }

        private void form(int wide, int high, int deep, String text) {
            due("form(" + wide + ", " + high + ", " + deep + ") of '" + text + "'",
                    x.form(wide, high, deep), y.form(wide, high, deep));
        }

        private static int four(String text, int from) {
            int number = 0;
            for (int i = from; i < from + 4; i++) {
                number = number << 8 | (i < text.length() ? text.charAt(i) & 255 : 0);
            }
            return number;
        }

        private void feed(int a, int b, int c, int d, int e) {
            due("feed", x.feed(a, b, c, d, e), y.feed(a, b, c, d, e));
        }

        private void end(int n) {
            due("end(" + n + ")", x.end(n), y.end(n));
        }

        private void rawTape() {
            if (random.nextInt(3) == 0) {
                end(around(0, 400));
            } else {
                feed(random.nextInt(), random.nextInt(), random.nextInt(), random.nextInt(), random.nextInt());
            }
            int what = around(0, 1);
            due("fault(" + what + ")", x.fault(what), y.fault(what));
        }

        private void lookAtForm() {
            for (int i = 0; i < 6; i++) {
                int a = around(-1, y.wide);
                int b = around(-1, y.high);
                int c = around(-1, y.deep);
                String cell = "(" + a + ", " + b + ", " + c + ")";
                due("solid" + cell, x.solid(a, b, c), y.solid(a, b, c));
                due("free" + cell, x.free(a, b, c), y.free(a, b, c));
                due("pieceAt" + cell, x.pieceAt(a, b, c), y.pieceAt(a, b, c));
            }
            int p = around(0, Math.max(1, y.pieces.size()));
            for (int what = -1; what < 6; what++) {
                due("piece(" + p + ", " + what + ")", x.piece(p, what), y.piece(p, what));
            }
        }

        private void pours() {
            for (int i = 0; i < 5; i++) {
                int n = random.nextBoolean() ? around(1, 1000) : around(1, 12);
                int p = around(0, Math.max(1, y.pieces.size()));
                switch (random.nextInt(5)) {
                    case 0:
                        int life = random.nextBoolean() ? around(1, 1000) : around(1, 40);
                        int price = around(0, 100);
                        due("wear(" + life + ", " + price + ")", x.wear(life, price), y.wear(life, price));
                        break;
                    case 1:
                        due("pour(" + n + ")", x.pour(n), y.pour(n));
                        break;
                    case 2:
                        due("mend(" + p + ")", x.mend(p), y.mend(p));
                        break;
                    case 3:
                        due("run(" + n + ")", x.run(n), y.run(n));
                        break;
                    default:
                        due("piece(" + p + ", 3)", x.piece(p, 3), y.piece(p, 3));
                        due("piece(" + p + ", 4)", x.piece(p, 4), y.piece(p, 4));
                        break;
                }
            }
        }

        private void orders() {
            for (int i = 0; i < 4; i++) {
                int o = around(0, 9);
                switch (random.nextInt(6)) {
                    case 0:
                        due("cancel(" + o + ")", x.cancel(o), y.cancel(o));
                        break;
                    case 1:
                        int days = around(0, random.nextBoolean() ? 10 : 100);
                        due("dry(" + days + ")", x.dry(days), y.dry(days));
                        break;
                    case 2:
                        due("row()", x.row(), y.row());
                        for (int k = -1; k < 11; k++) {
                            due("next(" + k + ")", x.next(k), y.next(k));
                            due("late(" + k + ")", x.late(k), y.late(k));
                        }
                        break;
                    default:
                        int pours = around(1, random.nextBoolean() ? 4 : 50);
                        int due = around(0, random.nextBoolean() ? 20 : 200);
                        int weight = around(1, random.nextBoolean() ? 3 : 100);
                        due("order(" + pours + ", " + due + ", " + weight + ")",
                                x.order(pours, due, weight), y.order(pours, due, weight));
                        break;
                }
            }
        }

        private void casts() {
            for (int i = 0; i < 6; i++) {
                int c = around(0, 11);
                switch (random.nextInt(6)) {
                    case 0:
                        int shrink = around(900, 1000);
                        int blur = around(random.nextBoolean() ? 900 : 0, 1000);
                        int bound = around(0, random.nextBoolean() ? 100 : 100000);
                        due("copies(" + shrink + ", " + blur + ", " + bound + ")",
                                x.copies(shrink, blur, bound), y.copies(shrink, blur, bound));
                        break;
                    case 1:
                        due("mother(" + c + ")", x.mother(c), y.mother(c));
                        break;
                    case 2:
                        due("steps(" + c + ")", x.steps(c), y.steps(c));
                        break;
                    case 3:
                        int what = around(0, 1);
                        due("told(" + what + ")", x.told(what), y.told(what));
                        break;
                    default:
                        int size = random.nextInt(8) == 0 ? 0
                                : random.nextBoolean() ? 1000 - 10 * upTo(5) : around(1, 100000);
                        int detail = random.nextBoolean() ? 900 - 45 * upTo(4) : around(0, 1000);
                        due("cast(" + c + ", " + size + ", " + detail + ")",
                                x.cast(c, size, detail), y.cast(c, size, detail));
                        break;
                }
            }
        }
    }

    /** The document once more, by trying all that there is. */
    private static final class PlainWorks {
        private static final int[][] STEPS = {{1, 0, 0}, {-1, 0, 0}, {0, 1, 0}, {0, -1, 0}, {0, 0, 1}, {0, 0, -1}};

        private final StringBuilder tape = new StringBuilder();
        private int fault = 0;
        private int faultPlace = NONE;
        int wide = 0;
        int high = 0;
        int deep = 0;
        private boolean[][][] solid;
        private int[] ways;
        List<List<int[]>> pieces = new ArrayList<>();
        private int[] pieceWays = {};
        private int[] poured = {};
        private int life = 20;
        private int price = 1;
        private int dry = 2;
        private final int[][] orders = new int[10][];
        private List<Integer> row = new ArrayList<>();
        private List<Integer> rowLate = new ArrayList<>();
        private final int[][] casts = new int[12][];
        private int shrink = 990;
        private int blur = 950;
        private int bound = 50;

        int feed(int... numbers) {
            if (tape.length() + 20 > 400) {
                return NONE;
            }
            for (int number : numbers) {
                for (int i = 3; i >= 0; i--) {
                    tape.append((char) (number >> 8 * i & 255));
                }
            }
            return tape.length();
        }

        boolean end(int n) {
            if (n < 0 || n > tape.length()) {
                return false;
            }
            tape.setLength(n);
            return true;
        }

        int form(int w, int h, int d) {
            if (Math.min(w, Math.min(h, d)) < 1 || Math.max(w, Math.max(h, d)) > 8) {
                return -2;
            }
            String text = tape.toString();
            tape.setLength(0);
            boolean[][][] grid = new boolean[w][h][d];
            fault = 0;
            faultPlace = NONE;
            obey(text, grid, w, h, d);
            if (fault != 0) {
                return -1;
            }
            wide = w;
            high = h;
            deep = d;
            solid = grid;
            ways = null;
            pieces = new ArrayList<>();
            int count = 0;
            for (boolean[][] plane : grid) {
                for (boolean[] line : plane) {
                    for (boolean cell : line) {
                        count += cell ? 1 : 0;
                    }
                }
            }
            return count;
        }

        /** Tokens are judged one by one against the one row of kinds that a statement's word asks for. */
        private void obey(String text, boolean[][][] grid, int w, int h, int d) {
            Matcher tokens = Pattern.compile("[ \\n]+|[a-z]+|[0-9]|(?s:.)").matcher(text);
            String kinds = "";
            String word = "";
            List<String> parts = new ArrayList<>();
            boolean apart = true;
            while (tokens.find()) {
                String token = tokens.group();
                if (token.matches("[ \\n]+")) {
                    apart = true;
                    continue;
                }
                if (kinds.isEmpty()) {
                    int which = Arrays.asList("box", "hole", "mirror", "turn").indexOf(token);
                    if (which < 0) {
                        mark(1, tokens.start());
                        return;
                    }
                    if (which == 3 && w != h) {
                        mark(2, tokens.start());
                        return;
                    }
                    word = token;
                    kinds = new String[] {"nnnlll;", "nnnlll;", "a;", ";"}[which];
                    parts.clear();
                    apart = false;
                    continue;
                }
                char kind = kinds.charAt(0);
                boolean digit = token.matches("[0-9]") && apart;
                boolean fits = kind == ';' ? token.equals(";") : kind == 'a' ? token.matches("[xyz]") : digit;
                if (!fits) {
                    mark(1, tokens.start());
                    return;
                }
                if (kind == 'l' && token.equals("0")) {
                    mark(2, tokens.start());
                    return;
                }
                parts.add(token);
                kinds = kinds.substring(1);
                apart = false;
                if (kinds.isEmpty()) {
                    act(word, parts, grid, w, h, d);
                }
            }
            if (!kinds.isEmpty()) {
                mark(1, text.length());
            }
        }

        private void mark(int kind, int place) {
            fault = kind;
            faultPlace = place;
        }

        private void act(String word, List<String> parts, boolean[][][] grid, int w, int h, int d) {
            boolean[][][] before = new boolean[w][h][d];
            for (int x = 0; x < w; x++) {
                for (int y = 0; y < h; y++) {
                    before[x][y] = grid[x][y].clone();
                }
            }
            for (int x = 0; x < w; x++) {
                for (int y = 0; y < h; y++) {
                    for (int z = 0; z < d; z++) {
                        if (word.equals("turn")) {
                            grid[y][w - 1 - x][z] = before[x][y][z];
                        } else if (word.equals("mirror")) {
                            boolean seen = parts.get(0).equals("x") ? before[w - 1 - x][y][z]
                                    : parts.get(0).equals("y") ? before[x][h - 1 - y][z] : before[x][y][d - 1 - z];
                            grid[x][y][z] = before[x][y][z] || seen;
                        } else if (within(x, parts, 0) && within(y, parts, 1) && within(z, parts, 2)) {
                            grid[x][y][z] = word.equals("box");
                        }
                    }
                }
            }
        }

        private static boolean within(int at, List<String> parts, int axis) {
            int from = Integer.parseInt(parts.get(axis));
            return at >= from && at < from + Integer.parseInt(parts.get(axis + 3));
        }

        int fault(int what) {
            return what == 0 ? fault : what == 1 ? faultPlace : NONE;
        }

        private boolean isSolid(int x, int y, int z) {
            return x >= 0 && y >= 0 && z >= 0 && x < wide && y < high && z < deep && solid[x][y][z];
        }

        private boolean inMouldBox(int x, int y, int z) {
            return solid != null && x >= -1 && y >= -1 && z >= -1 && x <= wide && y <= high && z <= deep;
        }

        int solid(int x, int y, int z) {
            if (solid == null || x < 0 || y < 0 || z < 0 || x >= wide || y >= high || z >= deep) {
                return NONE;
            }
            return solid[x][y][z] ? 1 : 0;
        }

        int free(int x, int y, int z) {
            if (!inMouldBox(x, y, z) || isSolid(x, y, z)) {
                return NONE;
            }
            int bits = 0;
            for (int way = 0; way < 6; way++) {
                boolean open = true;
                for (int i = 1; i < 12; i++) {
                    open &= !isSolid(x + i * STEPS[way][0], y + i * STEPS[way][1], z + i * STEPS[way][2]);
                }
                bits |= open ? 1 << way : 0;
            }
            return bits;
        }

        private List<int[]> mould() {
            List<int[]> all = new ArrayList<>();
            for (int z = -1; z <= deep; z++) {
                for (int y = -1; y <= high; y++) {
                    for (int x = -1; x <= wide; x++) {
                        if (!isSolid(x, y, z)) {
                            all.add(new int[] {x, y, z});
                        }
                    }
                }
            }
            return all;
        }

        int shut() {
            if (solid == null) {
                return NONE;
            }
            int count = 0;
            for (int[] cell : mould()) {
                count += free(cell[0], cell[1], cell[2]) == 0 ? 1 : 0;
            }
            return count;
        }

        private static int at(int[] cell) {
            return (cell[2] + 1) * 100 + (cell[1] + 1) * 10 + cell[0] + 1;
        }

        int draw() {
            if (solid == null) {
                return -1;
            }
            ways = null;
            pieces = new ArrayList<>();
            int[] freedom = new int[1000];
            List<int[]> mould = mould();
            for (int[] cell : mould) {
                freedom[at(cell)] = free(cell[0], cell[1], cell[2]);
                if (freedom[at(cell)] == 0) {
                    return -2;
                }
            }
            for (int length = 1; length <= 6 && ways == null; length++) {
                tryAll(new int[length], 0, freedom, mould);
            }
            poured = new int[pieces.size()];
            return pieces.size();
        }

        /** All rows of ways in the order of their numbers, so that the first of the best ones stays. */
        private void tryAll(int[] chosen, int at, int[] freedom, List<int[]> mould) {
            if (at == chosen.length) {
                judge(chosen, freedom, mould);
                return;
            }
            for (int way = 0; way < 6; way++) {
                boolean used = false;
                for (int i = 0; i < at; i++) {
                    used |= chosen[i] == way;
                }
                if (!used) {
                    chosen[at] = way;
                    tryAll(chosen, at + 1, freedom, mould);
                }
            }
        }

        private void judge(int[] chosen, int[] freedom, List<int[]> mould) {
            int[] owner = new int[1000];
            Arrays.fill(owner, -1);
            for (int[] cell : mould) {
                for (int i = chosen.length - 1; i >= 0; i--) {
                    owner[at(cell)] = (freedom[at(cell)] >> chosen[i] & 1) == 1 ? i : owner[at(cell)];
                }
                if (owner[at(cell)] < 0) {
                    return;
                }
            }
            List<List<int[]>> parts = new ArrayList<>();
            List<Integer> partWays = new ArrayList<>();
            for (int i = 0; i < chosen.length; i++) {
                for (int[] cell : mould) {
                    if (owner[at(cell)] == i) {
                        parts.add(take(cell, i, owner));
                        partWays.add(chosen[i]);
                    }
                }
            }
            if (ways == null || parts.size() < pieces.size()) {
                ways = chosen.clone();
                pieces = parts;
                pieceWays = partWays.stream().mapToInt(Integer::intValue).toArray();
            }
        }

        private List<int[]> take(int[] start, int i, int[] owner) {
            List<int[]> part = new ArrayList<>();
            ArrayDeque<int[]> open = new ArrayDeque<>();
            owner[at(start)] = -2;
            open.add(start);
            while (!open.isEmpty()) {
                int[] cell = open.remove();
                part.add(cell);
                for (int[] step : STEPS) {
                    int[] other = {cell[0] + step[0], cell[1] + step[1], cell[2] + step[2]};
                    if (inMouldBox(other[0], other[1], other[2]) && owner[at(other)] == i) {
                        owner[at(other)] = -2;
                        open.add(other);
                    }
                }
            }
            return part;
        }

        int way(int i) {
            return ways == null || i < 0 || i >= ways.length ? NONE : ways[i];
        }

        int pieceAt(int x, int y, int z) {
            for (int p = 0; p < pieces.size(); p++) {
                for (int[] cell : pieces.get(p)) {
                    if (cell[0] == x && cell[1] == y && cell[2] == z) {
                        return p;
                    }
                }
            }
            return NONE;
        }

        private int touching(int p) {
            int count = 0;
            for (int[] cell : pieces.get(p)) {
                boolean touches = false;
                for (int[] step : STEPS) {
                    touches |= isSolid(cell[0] + step[0], cell[1] + step[1], cell[2] + step[2]);
                }
                count += touches ? 1 : 0;
            }
            return count;
        }

        int piece(int p, int what) {
            if (p < 0 || p >= pieces.size() || what < 0 || what > 4) {
                return NONE;
            }
            return new int[] {pieceWays[p], pieces.get(p).size(), touching(p),
                Math.max(1, life - touching(p)), poured[p]}[what];
        }

        boolean wear(int newLife, int newPrice) {
            boolean can = newLife > 0 && newLife <= 1000 && newPrice >= 0 && newPrice <= 100;
            life = can ? newLife : life;
            price = can ? newPrice : price;
            return can;
        }

        private int[] borne() {
            int[] all = new int[pieces.size()];
            for (int p = 0; p < all.length; p++) {
                all[p] = piece(p, 3);
            }
            return all;
        }

        int pour(int n) {
            if (ways == null || n < 1 || n > 1000) {
                return NONE;
            }
            int[] borne = borne();
            for (int made = 0; made < n; made++) {
                for (int p = 0; p < borne.length; p++) {
                    if (poured[p] >= borne[p]) {
                        return made;
                    }
                }
                for (int p = 0; p < borne.length; p++) {
                    poured[p]++;
                }
            }
            return n;
        }

        int mend(int p) {
            if (p < 0 || p >= pieces.size()) {
                return NONE;
            }
            poured[p] = 0;
            return pieces.get(p).size() * price;
        }

        int run(int n) {
            if (ways == null || n < 1 || n > 1000) {
                return NONE;
            }
            int[] borne = borne();
            int cost = 0;
            for (int i = 0; i < n; i++) {
                for (int p = 0; p < borne.length; p++) {
                    if (poured[p] >= borne[p]) {
                        cost += mend(p);
                    }
                    poured[p]++;
                }
            }
            return cost;
        }

        int dry(int days) {
            int before = dry;
            if (days < 0 || days > 100) {
                return NONE;
            }
            dry = days;
            return before;
        }

        int order(int pours, int due, int weight) {
            if (pours < 1 || pours > 50 || due < 0 || due > 1000 || weight < 1 || weight > 100) {
                return NONE;
            }
            for (int o = 0; o < 10; o++) {
                if (orders[o] == null) {
                    orders[o] = new int[] {pours, due, weight};
                    return o;
                }
            }
            return NONE;
        }

        boolean cancel(int o) {
            if (o < 0 || o > 9 || orders[o] == null) {
                return false;
            }
            orders[o] = null;
            return true;
        }

        private int leastSum;
        private int[] leastRow;

        int row() {
            List<Integer> there = new ArrayList<>();
            for (int o = 0; o < 10; o++) {
                if (orders[o] != null) {
                    there.add(o);
                }
            }
            if (there.isEmpty()) {
                return NONE;
            }
            leastSum = Integer.MAX_VALUE;
            tryRows(there, new int[there.size()], 0, 0, 0);
            row = new ArrayList<>();
            rowLate = new ArrayList<>();
            int day = 0;
            for (int o : leastRow) {
                day += orders[o][0];
                row.add(o);
                rowLate.add(Math.max(0, day + dry - orders[o][1]));
            }
            return leastSum;
        }

        private void tryRows(List<Integer> there, int[] chosen, int at, int day, int sum) {
            if (sum >= leastSum) {
                return;
            }
            if (at == chosen.length) {
                leastSum = sum;
                leastRow = chosen.clone();
                return;
            }
            for (int o : there) {
                boolean used = false;
                for (int i = 0; i < at; i++) {
                    used |= chosen[i] == o;
                }
                if (!used) {
                    chosen[at] = o;
                    int done = day + orders[o][0];
                    tryRows(there, chosen, at + 1, done, sum + orders[o][2] * Math.max(0, done + dry - orders[o][1]));
                }
            }
        }

        int next(int i) {
            return i < 0 || i >= row.size() ? NONE : row.get(i);
        }

        int late(int i) {
            return i < 0 || i >= row.size() ? NONE : rowLate.get(i);
        }

        boolean cast(int c, int size, int detail) {
            if (c < 0 || c > 11 || size < 0 || size > 100000) {
                return false;
            }
            if (size == 0) {
                casts[c] = null;
                return true;
            }
            if (detail < 0 || detail > 1000) {
                return false;
            }
            casts[c] = new int[] {size, detail};
            return true;
        }

        boolean copies(int newShrink, int newBlur, int newBound) {
            if (newShrink < 900 || newShrink > 1000 || newBlur < 0 || newBlur > 1000 || newBound < 0 || newBound > 100000) {
                return false;
            }
            shrink = newShrink;
            blur = newBlur;
            bound = newBound;
            return true;
        }

        private int quarrel(int c, int m) {
            return Math.abs(casts[c][0] - (int) Math.floor(casts[m][0] * (double) shrink / 1000))
                    + Math.abs(casts[c][1] - (int) Math.floor(casts[m][1] * (double) blur / 1000));
        }

        int mother(int c) {
            if (c < 0 || c > 11 || casts[c] == null) {
                return NONE;
            }
            int best = -2;
            for (int m = 11; m >= 0; m--) {
                if (casts[m] != null && 10000L * casts[m][0] + casts[m][1] > 10000L * casts[c][0] + casts[c][1]
                        && (best < 0 || quarrel(c, m) <= quarrel(c, best))) {
                    best = m;
                }
            }
            return best >= 0 && quarrel(c, best) <= bound ? best : -2;
        }

        int steps(int c) {
            int mother = mother(c);
            return mother == NONE ? NONE : mother == -2 ? 0 : 1 + steps(mother);
        }

        int told(int what) {
            int count = 0;
            int sum = 0;
            for (int c = 0; c < 12; c++) {
                int mother = mother(c);
                count += mother == -2 ? 1 : 0;
                sum += mother >= 0 ? quarrel(c, mother) : 0;
            }
            return what == 0 ? count : what == 1 ? sum : NONE;
        }
    }
}
