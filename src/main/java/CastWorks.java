import java.util.Arrays;

/**
 * A works that casts statues: forms, the moulds that are drawn off them, pours, orders and found casts.
 * What every call answers is promised in ../shared/DOC.md; no call ever throws.
 */
public final class CastWorks {
    public static final int NONE = -1;

    private static final int IMPOSSIBLE = -2;
    /** Above all sums of pieces, and of weights times days late, that can be: these stay below 601,000. */
    private static final int FAR = 1_000_000;

    private final Tape tape = new Tape();
    private final TextReader reader = new TextReader(tape);
    private final Cells cells = new Cells();
    private final Cells draft = new Cells();
    private final Mould mould = new Mould(cells);
    private final Pieces pieces = new Pieces();
    private final Drawing drawing = new Drawing(mould, pieces);
    private final OrderBook orders = new OrderBook();
    private final Finds finds = new Finds();

    public CastWorks() {
    }

    public int feed(int a, int b, int c, int d, int e) {
        if (!tape.hasRoomForTwenty()) {
            return NONE;
        }
        tape.addFour(a);
        tape.addFour(b);
        tape.addFour(c);
        tape.addFour(d);
        tape.addFour(e);
        return tape.size();
    }

    public boolean end(int n) {
        return tape.keepFirst(n);
    }

    public int form(int wide, int high, int deep) {
        if (!Cells.canBeSide(wide) || !Cells.canBeSide(high) || !Cells.canBeSide(deep)) {
            return IMPOSSIBLE;
        }
        // The text works on a draft, so that a fault late in it leaves the form before as it was.
        draft.begin(wide, high, deep);
        boolean sound = reader.readOnto(draft);
        tape.keepFirst(0);
        if (!sound) {
            return NONE;
        }
        cells.copyFrom(draft);
        mould.makeAnew();
        drawing.forget();
        return cells.countSolid();
    }

    public int fault(int what) {
        switch (what) {
            case 0:
                return reader.faultKind();
            case 1:
                return reader.faultPlace();
            default:
                return NONE;
        }
    }

    public int solid(int x, int y, int z) {
        if (!cells.areWithin(x, y, z, 0)) {
            return NONE;
        }
        return cells.isSolid(Cells.indexOf(x, y, z)) ? 1 : 0;
    }

    public int free(int x, int y, int z) {
        int cell = mould.cellAt(x, y, z);
        return cell == NONE ? NONE : mould.freeWays(cell);
    }

    public int shut() {
        return cells.isThere() ? mould.countShut() : NONE;
    }

    public int draw() {
        if (!cells.isThere()) {
            return NONE;
        }
        return drawing.find() ? pieces.count() : IMPOSSIBLE;
    }

    public int way(int i) {
        return drawing.wayNumber(i);
    }

    public int pieceAt(int x, int y, int z) {
        int cell = mould.cellAt(x, y, z);
        return cell == NONE ? NONE : drawing.pieceOfCell(cell);
    }

    public int piece(int p, int what) {
        return pieces.tell(p, what);
    }

    // ---- pours

    public boolean wear(int life, int price) {
        return pieces.setWear(life, price);
    }

    public int pour(int n) {
        return pieces.canPour(n) ? pieces.pourWhileBorne(n) : NONE;
    }

    public int mend(int p) {
        return pieces.has(p) ? pieces.mendOne(p) : NONE;
    }

    public int run(int n) {
        return pieces.canPour(n) ? pieces.pourAndMend(n) : NONE;
    }

    // ---- orders

    public int dry(int days) {
        return orders.setDry(days);
    }

    public int order(int pours, int due, int weight) {
        return orders.add(pours, due, weight);
    }

    public boolean cancel(int o) {
        return orders.remove(o);
    }

    public int row() {
        return orders.findRow();
    }

    public int next(int i) {
        return orders.rowNumber(i);
    }

    public int late(int i) {
        return orders.rowLateness(i);
    }

    // ---- casts

    public boolean cast(int c, int size, int detail) {
        return finds.set(c, size, detail);
    }

    public boolean copies(int shrink, int blur, int bound) {
        return finds.setCopying(shrink, blur, bound);
    }

    public int mother(int c) {
        if (!finds.has(c)) {
            return NONE;
        }
        int found = finds.motherOf(c);
        return found == NONE ? IMPOSSIBLE : found;
    }

    public int steps(int c) {
        return finds.has(c) ? finds.stepsFrom(c) : NONE;
    }

    public int told(int what) {
        switch (what) {
            case 0:
                return finds.countMotherless();
            case 1:
                return finds.sumQuarrels();
            default:
                return NONE;
        }
    }

    /** The bytes that were fed and not yet read. */
    private static final class Tape {
        static final int MOST = 400;

        private final int[] bytes = new int[MOST];
        private int length;

        int size() {
            return length;
        }

        boolean hasRoomForTwenty() {
            return length <= MOST - 20;
        }

        void addFour(int number) {
            for (int shift = 24; shift >= 0 && length < MOST; shift -= 8) {
                bytes[length] = number >>> shift & 255;
                length++;
            }
        }

        boolean keepFirst(int n) {
            if (n < 0 || n > length) {
                return false;
            }
            length = n;
            return true;
        }

        /** NONE stands for the end of the text, as no byte is like it. */
        int byteAt(int place) {
            return place >= 0 && place < length ? bytes[place] : NONE;
        }
    }

    /** Reads the text of a form and does what it says, up to its first fault. */
    private static final class TextReader {
        private static final int NO_TEXT = 1;
        private static final int NO_SENSE = 2;
        private static final int NUMBERS = 6;
        private static final int FIRST_LENGTH = 3;

        private final Tape tape;
        private final int[] numbers = new int[NUMBERS];
        private int place;
        private int kind = 0;
        private int kindPlace = NONE;

        TextReader(Tape tape) {
            this.tape = tape;
        }

        int faultKind() {
            return kind;
        }

        int faultPlace() {
            return kindPlace;
        }

        boolean readOnto(Cells target) {
            place = 0;
            kind = 0;
            kindPlace = NONE;
            skipBlanks();
            for (int i = 0; i < Tape.MOST && kind == 0 && place < tape.size(); i++) {
                readStatement(target);
                skipBlanks();
            }
            return kind == 0;
        }

        private void readStatement(Cells target) {
            int start = place;
            if (takeWord("box")) {
                readBlock(target, 1);
            } else if (takeWord("hole")) {
                readBlock(target, 0);
            } else if (takeWord("mirror")) {
                readMirror(target);
            } else if (takeWord("turn")) {
                readTurn(target, start);
            } else {
                refuse(NO_TEXT, start);
            }
        }

        private void readBlock(Cells target, int value) {
            for (int i = 0; i < NUMBERS && kind == 0; i++) {
                readNumber(i);
            }
            readSemicolon();
            if (kind == 0) {
                target.fillBlock(numbers, value);
            }
        }

        private void readNumber(int i) {
            int before = place;
            skipBlanks();
            int digit = tape.byteAt(place) - '0';
            boolean apart = place > before;
            if (!apart || digit < 0 || digit > 9) {
                refuse(NO_TEXT, place);
            } else if (i >= FIRST_LENGTH && digit == 0) {
                refuse(NO_SENSE, place);
            } else {
                numbers[i] = digit;
                place++;
            }
        }

        private void readMirror(Cells target) {
            skipBlanks();
            int start = place;
            int axis = takeAxis();
            if (axis == NONE) {
                refuse(NO_TEXT, start);
            }
            readSemicolon();
            if (kind == 0) {
                target.mirrorAcross(axis);
            }
        }

        private void readTurn(Cells target, int start) {
            if (!target.canTurn()) {
                refuse(NO_SENSE, start);
            }
            readSemicolon();
            if (kind == 0) {
                target.turnOnce();
            }
        }

        private void readSemicolon() {
            skipBlanks();
            if (tape.byteAt(place) == ';') {
                place++;
            } else {
                refuse(NO_TEXT, place);
            }
        }

        private int takeAxis() {
            if (takeWord("x")) {
                return 0;
            }
            if (takeWord("y")) {
                return 1;
            }
            return takeWord("z") ? 2 : NONE;
        }

        /** A longer word that only begins with this one is another word, so its end is looked at too. */
        private boolean takeWord(String word) {
            int length = word.length();
            for (int i = 0; i < length; i++) {
                if (tape.byteAt(place + i) != word.charAt(i)) {
                    return false;
                }
            }
            if (isLetter(tape.byteAt(place + length))) {
                return false;
            }
            place += length;
            return true;
        }

        private static boolean isLetter(int value) {
            return value >= 'a' && value <= 'z';
        }

        private void skipBlanks() {
            while (place < tape.size() && isBlank(tape.byteAt(place))) {
                place++;
            }
        }

        private static boolean isBlank(int value) {
            return value == 10 || value == 32;
        }

        /** Only the first fault along the text counts. */
        private void refuse(int fault, int where) {
            if (kind == 0) {
                kind = fault;
                kindPlace = where;
            }
        }
    }

    /** The cells of a form; they stand in the rows of the largest mould, so that both share their indexes. */
    private static final class Cells {
        static final int SIDE = 10;
        static final int PLANE = SIDE * SIDE;
        static final int ALL = SIDE * PLANE;
        private static final int MOST = 8;

        /** 1 for a solid cell, 0 for an empty one. */
        private final int[] solidCells = new int[ALL];
        private final int[] layer = new int[MOST * MOST];
        private int wide;
        private int high;
        private int deep;

        static boolean canBeSide(int length) {
            return length >= 1 && length <= MOST;
        }

        static int indexOf(int x, int y, int z) {
            return (z + 1) * PLANE + (y + 1) * SIDE + x + 1;
        }

        void begin(int newWide, int newHigh, int newDeep) {
            wide = newWide;
            high = newHigh;
            deep = newDeep;
            Arrays.fill(solidCells, 0);
        }

        void copyFrom(Cells other) {
            wide = other.wide;
            high = other.high;
            deep = other.deep;
            System.arraycopy(other.solidCells, 0, solidCells, 0, ALL);
        }

        boolean isThere() {
            return wide > 0;
        }

        /** Whether a cell lies in the box, which is made greater by a margin on each side. */
        boolean areWithin(int x, int y, int z, int margin) {
            return wide > 0
                    && x >= -margin && x < wide + margin
                    && y >= -margin && y < high + margin
                    && z >= -margin && z < deep + margin;
        }

        boolean isSolid(int cell) {
            return cell >= 0 && cell < ALL && solidCells[cell] == 1;
        }

        int countSolid() {
            int count = 0;
            for (int cell = 0; cell < ALL; cell++) {
                count += solidCells[cell];
            }
            return count;
        }

        /** The numbers are x, y, z and the three lengths. */
        void fillBlock(int[] numbers, int value) {
            if (numbers.length < 6) {
                return;
            }
            int endX = Math.min(wide, numbers[0] + numbers[3]);
            int endY = Math.min(high, numbers[1] + numbers[4]);
            int endZ = Math.min(deep, numbers[2] + numbers[5]);
            for (int z = numbers[2]; z < endZ; z++) {
                for (int y = numbers[1]; y < endY; y++) {
                    for (int x = numbers[0]; x < endX; x++) {
                        put(x, y, z, value);
                    }
                }
            }
        }

        void mirrorAcross(int axis) {
            for (int z = 0; z < deep; z++) {
                for (int y = 0; y < high; y++) {
                    for (int x = 0; x < wide; x++) {
                        if (isSolid(indexOf(x, y, z))) {
                            put(axis == 0 ? wide - 1 - x : x,
                                    axis == 1 ? high - 1 - y : y,
                                    axis == 2 ? deep - 1 - z : z, 1);
                        }
                    }
                }
            }
        }

        boolean canTurn() {
            return wide == high;
        }

        void turnOnce() {
            for (int z = 0; z < deep && canTurn(); z++) {
                keepLayer(z);
                for (int y = 0; y < high && y < MOST; y++) {
                    for (int x = 0; x < wide && x < MOST; x++) {
                        put(y, wide - 1 - x, z, layer[y * MOST + x]);
                    }
                }
            }
        }

        private void keepLayer(int z) {
            for (int y = 0; y < high && y < MOST; y++) {
                for (int x = 0; x < wide && x < MOST; x++) {
                    layer[y * MOST + x] = isSolid(indexOf(x, y, z)) ? 1 : 0;
                }
            }
        }

        private void put(int x, int y, int z, int value) {
            if (areWithin(x, y, z, 0)) {
                solidCells[indexOf(x, y, z)] = value;
            }
        }
    }

    /** All that is not solid in the box that is 1 more on each side. */
    private static final class Mould {
        static final int WAYS = 6;

        private final Cells cells;
        /** The indexes of its cells, by z, then y, then x. */
        private final int[] members = new int[Cells.ALL];
        private int length;
        /** The ways by which a cell is free, as bits. */
        private final int[] freeBits = new int[Cells.ALL];

        Mould(Cells cells) {
            this.cells = cells;
        }

        void makeAnew() {
            Arrays.fill(freeBits, 0);
            length = 0;
            for (int z = -1; z <= cells.deep; z++) {
                for (int y = -1; y <= cells.high; y++) {
                    for (int x = -1; x <= cells.wide; x++) {
                        addMember(cellAt(x, y, z));
                    }
                }
            }
            for (int i = 0; i < length; i++) {
                freeFromEdge(members[i]);
            }
        }

        int size() {
            return length;
        }

        int member(int i) {
            return i >= 0 && i < length ? members[i] : NONE;
        }

        /** The index of a cell of the mould; NONE without a form, where it is solid or lies outside. */
        int cellAt(int x, int y, int z) {
            if (!cells.areWithin(x, y, z, 1)) {
                return NONE;
            }
            int cell = Cells.indexOf(x, y, z);
            return cells.isSolid(cell) ? NONE : cell;
        }

        int freeWays(int cell) {
            return cell >= 0 && cell < Cells.ALL ? freeBits[cell] : 0;
        }

        int countShut() {
            int count = 0;
            for (int i = 0; i < length; i++) {
                count += freeWays(members[i]) == 0 ? 1 : 0;
            }
            return count;
        }

        /** The cell next to one by a way; NONE beyond the mould's box. */
        int beside(int cell, int way) {
            if (cell < 0) {
                return NONE;
            }
            switch (way) {
                case 0:
                    return cell % Cells.SIDE <= cells.wide ? cell + 1 : NONE;
                case 1:
                    return cell % Cells.SIDE > 0 ? cell - 1 : NONE;
                case 2:
                    return cell / Cells.SIDE % Cells.SIDE <= cells.high ? cell + Cells.SIDE : NONE;
                case 3:
                    return cell / Cells.SIDE % Cells.SIDE > 0 ? cell - Cells.SIDE : NONE;
                case 4:
                    return cell / Cells.PLANE <= cells.deep ? cell + Cells.PLANE : NONE;
                case 5:
                    return cell / Cells.PLANE > 0 ? cell - Cells.PLANE : NONE;
                default:
                    return NONE;
            }
        }

        boolean touchesSolid(int cell) {
            for (int way = 0; way < WAYS; way++) {
                if (cells.isSolid(beside(cell, way))) {
                    return true;
                }
            }
            return false;
        }

        private void addMember(int cell) {
            if (cell != NONE && length < Cells.ALL) {
                members[length] = cell;
                length++;
            }
        }

        private void freeFromEdge(int cell) {
            for (int way = 0; way < WAYS; way++) {
                if (beside(cell, way) == NONE) {
                    freeInwards(cell, way);
                }
            }
        }

        /** From the edge inwards a line is free by a way up to its first solid cell. */
        private void freeInwards(int edge, int way) {
            int cell = edge;
            for (int i = 0; i < Cells.SIDE && cell >= 0 && cell < Cells.ALL && !cells.isSolid(cell); i++) {
                freeBits[cell] |= 1 << way;
                // Ways stand in pairs of opposite ones, so the other one of a pair differs in its last bit.
                cell = beside(cell, way ^ 1);
            }
        }
    }

    /** Parts the cells of the mould into what hangs together. */
    private static final class Parting {
        private static final int OPEN = -2;

        private final Mould mould;
        private final int[] numberOf = new int[Cells.ALL];
        private final int[] waiting = new int[Cells.ALL];

        Parting(Mould mould) {
            this.mould = mould;
        }

        int numberAt(int cell) {
            return cell >= 0 && cell < Cells.ALL ? numberOf[cell] : NONE;
        }

        /**
         * Numbers the parts of a way, that is drawn behind others, from a number on: how many there are.
         * Numbers of an earlier parting may stay in other cells: only OPEN ones are looked for.
         */
        int part(int way, int drawn, int firstNumber) {
            openCells(way, drawn);
            int number = firstNumber;
            for (int i = 0; i < mould.size(); i++) {
                int cell = mould.member(i);
                if (numberAt(cell) == OPEN) {
                    spread(cell, number);
                    number++;
                }
            }
            return number - firstNumber;
        }

        private void openCells(int way, int drawn) {
            for (int i = 0; i < mould.size(); i++) {
                int cell = mould.member(i);
                int ways = mould.freeWays(cell);
                if ((ways >> way & 1) == 1 && (ways & drawn) == 0) {
                    numberOf[cell] = OPEN;
                }
            }
        }

        private void spread(int start, int number) {
            int tail = reach(start, number, 0);
            for (int head = 0; head < tail && head < Cells.ALL; head++) {
                for (int side = 0; side < Mould.WAYS; side++) {
                    tail = reach(mould.beside(waiting[head], side), number, tail);
                }
            }
        }

        /** An open cell gets its number and waits to be gone on from: how many have waited then. */
        private int reach(int cell, int number, int tail) {
            if (cell < 0 || cell >= Cells.ALL || numberOf[cell] != OPEN || tail >= Cells.ALL) {
                return tail;
            }
            numberOf[cell] = number;
            waiting[tail] = cell;
            return tail + 1;
        }
    }

    /** Finds the ways, and their order, in which the mould is drawn off with the fewest ways, then pieces. */
    private static final class Drawing {
        private static final int SETS = 1 << Mould.WAYS;

        private final Mould mould;
        private final Pieces pieces;
        private final Parting parting;
        private final int[] ways = new int[Mould.WAYS];
        private int wayCount;
        /** By the set of ways that are drawn already: the fewest pieces that are still to come. */
        private final int[] piecesToCome = new int[SETS];
        private final int[] wayToCome = new int[SETS];
        /** How many cells are free by just these ways. */
        private final int[] cellsFreeBy = new int[SETS];

        Drawing(Mould mould, Pieces pieces) {
            this.mould = mould;
            this.pieces = pieces;
            this.parting = new Parting(mould);
        }

        void forget() {
            wayCount = 0;
            pieces.clear();
        }

        boolean find() {
            if (wayCount > 0) {
                // The form is the one that this drawing was found for, so nothing but its pours can differ.
                pieces.takeBackPours();
                return true;
            }
            noteFreedoms();
            int count = fewestWays();
            if (count == NONE) {
                return false;
            }
            weighSets(count);
            keepBest(count);
            pieces.gather(mould, parting);
            return true;
        }

        int wayNumber(int i) {
            return i >= 0 && i < wayCount ? ways[i] : NONE;
        }

        int pieceOfCell(int cell) {
            return wayCount > 0 ? parting.numberAt(cell) : NONE;
        }

        /** Few sets of ways by which cells are free occur, so a cover is tested on these and not on all cells. */
        private void noteFreedoms() {
            Arrays.fill(cellsFreeBy, 0);
            for (int i = 0; i < mould.size(); i++) {
                cellsFreeBy[mould.freeWays(mould.member(i)) & SETS - 1]++;
            }
        }

        private boolean frees(int set) {
            for (int freedom = 0; freedom < SETS; freedom++) {
                if (cellsFreeBy[freedom] > 0 && (freedom & set) == 0) {
                    return false;
                }
            }
            return true;
        }

        private int fewestWays() {
            int fewest = NONE;
            for (int set = 1; set < SETS; set++) {
                int count = Integer.bitCount(set);
                if ((fewest == NONE || count < fewest) && frees(set)) {
                    fewest = count;
                }
            }
            return fewest;
        }

        /** A set's successors are greater numbers, so they are weighed before it. */
        private void weighSets(int count) {
            for (int drawn = SETS - 1; drawn >= 0; drawn--) {
                int size = Integer.bitCount(drawn);
                piecesToCome[drawn] = size == count && frees(drawn) ? 0 : FAR;
                wayToCome[drawn] = NONE;
                if (size < count) {
                    weighWays(drawn);
                }
            }
        }

        /** The lesser way stays where several do as well; each way brings a piece, so no hopeless one is parted. */
        private void weighWays(int drawn) {
            for (int way = 0; way < Mould.WAYS; way++) {
                int after = drawn | 1 << way;
                if (after != drawn && piecesToCome[after] + 1 < piecesToCome[drawn]) {
                    int sum = parting.part(way, drawn, 0) + piecesToCome[after];
                    if (sum < piecesToCome[drawn]) {
                        piecesToCome[drawn] = sum;
                        wayToCome[drawn] = way;
                    }
                }
            }
        }

        private void keepBest(int count) {
            int drawn = 0;
            for (int i = 0; i < count && i < Mould.WAYS && wayToCome[drawn] != NONE; i++) {
                int way = wayToCome[drawn];
                ways[i] = way;
                wayCount = i + 1;
                pieces.add(way, parting.part(way, drawn, pieces.count()));
                drawn |= 1 << way;
            }
        }
    }

    /** The pieces of the drawing, and how they wear. */
    private static final class Pieces {
        private static final int MOST_POURS = 1000;

        private final int[] ways = new int[Cells.ALL];
        private final int[] sizes = new int[Cells.ALL];
        private final int[] touching = new int[Cells.ALL];
        private final int[] poured = new int[Cells.ALL];
        private int length;
        private int life = 20;
        private int price = 1;

        void clear() {
            length = 0;
        }

        int count() {
            return length;
        }

        boolean has(int p) {
            return p >= 0 && p < length;
        }

        void add(int way, int howMany) {
            for (int i = 0; i < howMany && length < Cells.ALL; i++) {
                ways[length] = way;
                sizes[length] = 0;
                touching[length] = 0;
                poured[length] = 0;
                length++;
            }
        }

        void gather(Mould mould, Parting parting) {
            for (int i = 0; i < mould.size(); i++) {
                int cell = mould.member(i);
                int p = parting.numberAt(cell);
                if (has(p)) {
                    sizes[p]++;
                    touching[p] += mould.touchesSolid(cell) ? 1 : 0;
                }
            }
        }

        void takeBackPours() {
            Arrays.fill(poured, 0);
        }

        int tell(int p, int what) {
            if (!has(p)) {
                return NONE;
            }
            switch (what) {
                case 0:
                    return ways[p];
                case 1:
                    return sizes[p];
                case 2:
                    return touching[p];
                case 3:
                    return borneBy(p);
                case 4:
                    return poured[p];
                default:
                    return NONE;
            }
        }

        boolean setWear(int newLife, int newPrice) {
            if (newLife < 1 || newLife > 1000 || newPrice < 0 || newPrice > 100) {
                return false;
            }
            life = newLife;
            price = newPrice;
            return true;
        }

        boolean canPour(int n) {
            return length > 0 && n >= 1 && n <= MOST_POURS;
        }

        int pourWhileBorne(int n) {
            int made = n;
            for (int p = 0; p < length; p++) {
                made = Math.min(made, leftOn(p));
            }
            for (int p = 0; p < length; p++) {
                poured[p] += made;
            }
            return made;
        }

        int mendOne(int p) {
            if (!has(p)) {
                return NONE;
            }
            poured[p] = 0;
            return sizes[p] * price;
        }

        int pourAndMend(int n) {
            int cost = 0;
            for (int p = 0; p < length; p++) {
                cost += pourAndMendOne(p, n);
            }
            return cost;
        }

        /** No piece waits for another one, so each one's mendings are counted at once and not pour by pour. */
        private int pourAndMendOne(int p, int n) {
            int left = leftOn(p);
            if (n <= left) {
                poured[p] += n;
                return 0;
            }
            int borne = Math.max(1, borneBy(p));
            int behindFirstMending = n - left;
            int mendings = (behindFirstMending + borne - 1) / borne;
            poured[p] = behindFirstMending - (mendings - 1) * borne;
            return mendings * sizes[p] * price;
        }

        private int borneBy(int p) {
            return Math.max(1, life - touching[p]);
        }

        /** A shorter life may have come behind the pours, so that more are behind a piece than it bears. */
        private int leftOn(int p) {
            return Math.max(0, borneBy(p) - poured[p]);
        }
    }

    /** The orders, and the row in which least comes late. */
    private static final class OrderBook {
        private static final int MOST = 10;
        private static final int SETS = 1 << MOST;

        /** 0 pours: the number is free. */
        private final int[] pours = new int[MOST];
        private final int[] dues = new int[MOST];
        private final int[] weights = new int[MOST];
        private int dryDays = 2;
        /** By the set of orders that are still to be poured, behind all others. */
        private final int[] leastSum = new int[SETS];
        private final int[] leader = new int[SETS];
        private final int[] rowOrders = new int[MOST];
        private final int[] rowLate = new int[MOST];
        private int rowLength;

        int setDry(int days) {
            if (days < 0 || days > 100) {
                return NONE;
            }
            int before = dryDays;
            dryDays = days;
            return before;
        }

        int add(int newPours, int due, int weight) {
            boolean can = newPours >= 1 && newPours <= 50 && due >= 0 && due <= 1000 && weight >= 1 && weight <= 100;
            for (int o = 0; o < MOST && can; o++) {
                if (pours[o] == 0) {
                    pours[o] = newPours;
                    dues[o] = due;
                    weights[o] = weight;
                    return o;
                }
            }
            return NONE;
        }

        boolean remove(int o) {
            if (o < 0 || o >= MOST || pours[o] == 0) {
                return false;
            }
            pours[o] = 0;
            return true;
        }

        int rowNumber(int i) {
            return i >= 0 && i < rowLength ? rowOrders[i] : NONE;
        }

        int rowLateness(int i) {
            return i >= 0 && i < rowLength ? rowLate[i] : NONE;
        }

        int findRow() {
            int all = allOrders();
            if (all == 0) {
                return NONE;
            }
            int days = poursOf(all);
            leastSum[0] = 0;
            for (int left = 1; left <= all; left++) {
                if ((left & all) == left) {
                    weighSet(left, days - poursOf(left));
                }
            }
            keepRow(all);
            return leastSum[all];
        }

        private int allOrders() {
            int all = 0;
            for (int o = 0; o < MOST; o++) {
                all |= pours[o] > 0 ? 1 << o : 0;
            }
            return all;
        }

        private int poursOf(int set) {
            int sum = 0;
            for (int o = 0; o < MOST; o++) {
                sum += (set >> o & 1) * pours[o];
            }
            return sum;
        }

        /** The lesser number stays where several do as well. */
        private void weighSet(int left, int day) {
            leastSum[left] = FAR;
            for (int o = 0; o < MOST; o++) {
                int rest = left & ~(1 << o);
                if (rest != left) {
                    int sum = weights[o] * latenessOf(o, day) + leastSum[rest];
                    if (sum < leastSum[left]) {
                        leastSum[left] = sum;
                        leader[left] = o;
                    }
                }
            }
        }

        /** How late an order is that is begun when so many days have gone. */
        private int latenessOf(int o, int day) {
            return Math.max(0, day + pours[o] + dryDays - dues[o]);
        }

        private void keepRow(int all) {
            int left = all;
            int day = 0;
            rowLength = 0;
            for (int i = 0; i < MOST && left != 0; i++) {
                int o = leader[left];
                rowOrders[i] = o;
                rowLate[i] = latenessOf(o, day);
                rowLength = i + 1;
                day += pours[o];
                left &= ~(1 << o);
            }
        }
    }

    /** The casts that were found, and which was cast from which. */
    private static final class Finds {
        private static final int MOST = 12;

        /** 0: no such cast. */
        private final int[] sizes = new int[MOST];
        private final int[] details = new int[MOST];
        private int shrinking = 990;
        private int blurring = 950;
        private int mostQuarrel = 50;

        boolean has(int c) {
            return c >= 0 && c < MOST && sizes[c] > 0;
        }

        boolean set(int c, int size, int detail) {
            if (c < 0 || c >= MOST || size < 0 || size > 100000) {
                return false;
            }
            if (size > 0 && (detail < 0 || detail > 1000)) {
                return false;
            }
            sizes[c] = size;
            details[c] = size > 0 ? detail : 0;
            return true;
        }

        boolean setCopying(int shrink, int blur, int bound) {
            if (shrink < 900 || shrink > 1000 || blur < 0 || blur > 1000 || bound < 0 || bound > 100000) {
                return false;
            }
            shrinking = shrink;
            blurring = blur;
            mostQuarrel = bound;
            return true;
        }

        int motherOf(int c) {
            int best = NONE;
            int least = mostQuarrel + 1;
            for (int m = 0; m < MOST; m++) {
                if (canBeMother(m, c)) {
                    int quarrel = quarrelOf(c, m);
                    if (quarrel < least) {
                        least = quarrel;
                        best = m;
                    }
                }
            }
            return best;
        }

        /** A mother is always greater, or as great and finer, so the way up comes to an end. */
        int stepsFrom(int c) {
            int count = 0;
            int mother = motherOf(c);
            for (int i = 0; i < MOST && mother != NONE; i++) {
                count++;
                mother = motherOf(mother);
            }
            return count;
        }

        int countMotherless() {
            int count = 0;
            for (int c = 0; c < MOST; c++) {
                count += has(c) && motherOf(c) == NONE ? 1 : 0;
            }
            return count;
        }

        int sumQuarrels() {
            int sum = 0;
            for (int c = 0; c < MOST; c++) {
                int mother = motherOf(c);
                sum += mother == NONE ? 0 : quarrelOf(c, mother);
            }
            return sum;
        }

        private boolean canBeMother(int m, int c) {
            return has(m) && has(c)
                    && (sizes[m] > sizes[c] || sizes[m] == sizes[c] && details[m] > details[c]);
        }

        private int quarrelOf(int c, int m) {
            if (!has(c) || !has(m)) {
                return 0;
            }
            int sizeQuarrel = Math.abs(sizes[c] - sizes[m] * shrinking / 1000);
            int detailQuarrel = Math.abs(details[c] - details[m] * blurring / 1000);
            return sizeQuarrel + detailQuarrel;
        }
    }
}
