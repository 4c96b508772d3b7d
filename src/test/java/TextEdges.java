/** The edges of promises 1 to 5: a new object and the texts of forms. */
public final class TextEdges extends Checks {
    private TextEdges() {
    }

    public static void main(String[] args) {
        runTests(TextEdges.class, args, 1, 5);
    }

    private static boolean isBlank(int value) {
        return value == 10 || value == 32;
    }

    private static boolean isLetter(int value) {
        return value >= 'a' && value <= 'z';
    }

    // ---- promise 1: a new object

    static void promise01NewHasNoForm() {
        CastWorks x = new CastWorks();
        for (int at = -2; at <= 9; at++) {
            due("solid", x.solid(at, 0, 0), NONE);
            due("solid", x.solid(at, at, at), NONE);
            due("free", x.free(at, 0, 0), NONE);
            due("free", x.free(at, at, at), NONE);
            due("pieceAt", x.pieceAt(at, at, at), NONE);
            due("way", x.way(at), NONE);
            due("piece", x.piece(at, 1), NONE);
            due("mend", x.mend(at), NONE);
        }
        due("shut", x.shut(), NONE);
        due("draw", x.draw(), -1);
        due("pour", x.pour(1), NONE);
        due("run", x.run(1), NONE);
        due("fault(0)", x.fault(0), 0);
        due("fault(1)", x.fault(1), NONE);
    }

    static void promise01NewHasAnEmptyTape() {
        CastWorks x = new CastWorks();
        due("end(1)", x.end(1), false);
        due("end(0)", x.end(0), true);
        due("form of an empty tape", x.form(1, 1, 1), 0);
        due("the first feed", new CastWorks().feed(0, 0, 0, 0, 0), 20);
    }

    static void promise01NewHasNoOrders() {
        CastWorks x = new CastWorks();
        due("row", x.row(), NONE);
        for (int o = -1; o <= 10; o++) {
            due("cancel", x.cancel(o), false);
            due("next", x.next(o), NONE);
            due("late", x.late(o), NONE);
        }
        due("the first order", x.order(1, 1, 1), 0);
    }

    static void promise01NewHasNoCasts() {
        CastWorks x = new CastWorks();
        for (int c = -1; c <= 12; c++) {
            due("mother", x.mother(c), NONE);
            due("steps", x.steps(c), NONE);
        }
        due("told(0)", x.told(0), 0);
        due("told(1)", x.told(1), 0);
    }

    static void promise01NewsHaveNothingInCommon() {
        CastWorks x = drawn(CUBE, 1, 1, 1);
        feed(x, "x", 0);
        x.wear(5, 3);
        x.pour(1);
        x.dry(9);
        x.order(1, 0, 1);
        x.row();
        x.cast(0, 100, 100);
        x.copies(900, 0, 0);
        CastWorks y = new CastWorks();
        due("solid", y.solid(0, 0, 0), NONE);
        due("end(1)", y.end(1), false);
        due("next", y.next(0), NONE);
        due("row", y.row(), NONE);
        due("DRY at first", y.dry(0), 2);
        due("mother", y.mother(0), NONE);
        due("form", make(y, CUBE, 1, 1, 1), 1);
        due("draw", y.draw(), 2);
        due("LIFE at first", y.piece(1, 3), 19);
        due("PRICE at first", y.mend(0), 25);
        y.cast(0, 1000, 1000);
        y.cast(1, 990, 900);
        due("SHRINK, BLUR, BOUND at first", y.mother(1), 0);
        due("the first one has kept its own", x.piece(0, 3), 1);
        due("the first one has kept its own", x.piece(0, 4), 1);
        due("the first one has kept its own", x.mother(0), -2);
        due("the first one has kept its own", x.dry(9), 9);
    }

    static void promise01CallsUpToThe512th() {
        CastWorks x = new CastWorks();
        int calls = 0;
        for (; calls < 10; calls++) {
            due("order", x.order(50, 0, 100), calls);
        }
        for (; calls < 510; calls++) {
            due("an order too many", x.order(1, 1, 1), NONE);
        }
        due("the 511th call", x.row(), 100 * (50 * 55 + 2 * 10));
        due("the 512th call", x.late(9), 502);
    }

    static void promise01CallsOfEveryKindUpToThe512th() {
        CastWorks x = new CastWorks();
        for (int call = 1; call <= 485; call++) {
            due("feed", x.feed(0, 0, 0, 0, 0), call <= 20 ? 20 * call : NONE);
        }
        due("call 486", x.end(0), true);
        due("call 487", feed(x, CUBE, 0), 20);
        due("call 488", x.end(16), true);
        due("call 489", x.form(1, 1, 1), 1);
        due("call 490", x.fault(1), NONE);
        due("call 491", x.solid(0, 0, 0), 1);
        due("call 492", x.free(1, 0, 0), 61);
        due("call 493", x.shut(), 0);
        due("call 494", x.draw(), 2);
        due("call 495", x.way(1), 1);
        due("call 496", x.pieceAt(-1, 0, 0), 1);
        due("call 497", x.piece(0, 3), 15);
        due("call 498", x.wear(10, 2), true);
        due("call 499", x.pour(9), 5);
        due("call 500", x.mend(1), 2);
        due("call 501", x.run(1), 50);
        due("call 502", x.dry(0), 2);
        due("call 503", x.order(5, 3, 4), 0);
        due("call 504", x.row(), 8);
        due("call 505", x.next(0), 0);
        due("call 506", x.late(0), 2);
        due("call 507", x.cancel(0), true);
        due("call 508", x.cast(11, 1000, 0), true);
        due("call 509", x.copies(1000, 1000, 0), true);
        due("call 510", x.mother(11), -2);
        due("call 511", x.steps(11), 0);
        due("call 512", x.told(0), 1);
    }

    // ---- promise 2: feed

    static void promise02FeedUpTo400() {
        CastWorks x = new CastWorks();
        for (int i = 1; i <= 20; i++) {
            due("feed " + i, x.feed(0, 0, 0, 0, 0), 20 * i);
        }
        due("feed beyond 400", x.feed(0, 0, 0, 0, 0), NONE);
        due("feed beyond 400 again", x.feed(0, 0, 0, 0, 0), NONE);
    }

    static void promise02FeedFrom380ButNotFrom381() {
        for (int length = 380; length <= 400; length++) {
            CastWorks x = new CastWorks();
            lay(x, blanks(length));
            due("feed behind " + length, x.feed(0, 0, 0, 0, 0), length == 380 ? 400 : NONE);
            due("it has so many", x.end(length == 380 ? 400 : length), true);
            due("it has no more", x.end(length == 380 ? 401 : length + 1), false);
        }
    }

    static void promise02FeedRefusedDoesNothing() {
        CastWorks x = new CastWorks();
        lay(x, CUBE + blanks(384));
        due("feed beyond 400", feed(x, "x", 0), NONE);
        due("it has no more", x.end(401), false);
        due("the text has stayed", x.form(2, 2, 2), 1);
        due("nothing is left over", x.end(1), false);
        lay(x, blanks(365) + CUBE);
        due("feed beyond 400", feed(x, "x", 0), NONE);
        due("it has no more", x.end(382), false);
        due("the text has stayed", x.form(2, 2, 2), 1);
    }

    static void promise02FeedOfEveryByteInItsPlace() {
        // With their highest bit lost the last two would be blanks.
        int[] values = {0, 9, 11, 31, 33, 127, 128, 255, 138, 160};
        for (int place = 0; place < 20; place++) {
            CastWorks x = new CastWorks();
            for (int value : values) {
                String text = blanks(place) + (char) value + blanks(19 - place);
                due("feed", feed(x, text, 0), 20);
                due("form with byte " + value, x.form(1, 1, 1), NONE);
                due("its fault", x.fault(0), 1);
                due("the place of byte " + value, x.fault(1), place);
            }
        }
    }

    static void promise02FeedComesBehindTheTape() {
        CastWorks x = new CastWorks();
        feed(x, "box 0 0 0 1 1 1;abcd", 0);
        x.end(13);
        due("feed behind 13", feed(x, " 2;", 0), 33);
        due("form", x.form(2, 2, 2), 2);
        due("behind the form", feed(x, "", 0), 20);
    }

    // ---- promise 3: end

    static void promise03EndOfAnEmptyTape() {
        CastWorks x = new CastWorks();
        due("end(0)", x.end(0), true);
        due("end(1)", x.end(1), false);
        due("end(-1)", x.end(-1), false);
        due("end(0)", x.end(0), true);
    }

    static void promise03EndOfAFullTape() {
        CastWorks x = new CastWorks();
        lay(x, blanks(400));
        due("end(401)", x.end(401), false);
        due("end(400)", x.end(400), true);
        due("end(399)", x.end(399), true);
        due("end(400)", x.end(400), false);
        due("end(399)", x.end(399), true);
        due("end(0)", x.end(0), true);
        due("end(1)", x.end(1), false);
    }

    static void promise03EndRefusedDoesNothing() {
        CastWorks x = new CastWorks();
        lay(x, CUBE);
        due("end(-1)", x.end(-1), false);
        due("end(17)", x.end(17), false);
        due("end(20), which it had", x.end(20), false);
        for (int n : FAR_OFF) {
            due("end(" + n + ")", x.end(n), false);
        }
        due("it has as many", x.end(16), true);
        due("the text has stayed", x.form(1, 1, 1), 1);
    }

    static void promise03EndLeavesTheFirstAlone() {
        for (int n = 0; n <= 20; n++) {
            CastWorks x = new CastWorks();
            feed(x, blanks(20), 0);
            due("end(" + n + ")", x.end(n), true);
            due("end(" + (n + 1) + ")", x.end(n + 1), false);
            due("feed", feed(x, "x", 0), n + 20);
            x.form(1, 1, 1);
            due("the place of what came then", x.fault(1), n);
        }
    }

    // ---- promise 4: form

    static void promise04FormOfSides1To8() {
        for (int axis = 0; axis < 3; axis++) {
            CastWorks x = new CastWorks();
            for (int side = -1; side <= 10; side++) {
                int[] sides = {1, 1, 1};
                sides[axis] = side;
                boolean can = side >= 1 && side <= 8;
                due("form of side " + side, make(x, "box 0 0 0 9 9 9;", sides[0], sides[1], sides[2]), can ? side : -2);
            }
            for (int side : FAR_OFF) {
                int[] sides = {1, 1, 1};
                sides[axis] = side;
                due("form of side " + side, x.form(sides[0], sides[1], sides[2]), -2);
            }
        }
        soundDue("box 0 0 0 9 9 9;", 8, 8, 8, 512);
        soundDue("box 0 0 0 9 9 9;", 1, 1, 1, 1);
    }

    static void promise04FormOfNoBoxLeavesTheTape() {
        int[][] boxes = {{0, 1, 1}, {1, 0, 1}, {1, 1, 0}, {9, 1, 1}, {1, 9, 1}, {1, 1, 9}, {0, 0, 0}, {9, 9, 9}, {-1, 8, 8}};
        for (int[] box : boxes) {
            CastWorks x = new CastWorks();
            lay(x, "box 0 0 0 2 1 1;");
            due("form of no box", x.form(box[0], box[1], box[2]), -2);
            due("no byte more", x.end(17), false);
            due("no byte less", x.end(16), true);
            due("no FORM", x.solid(0, 0, 0), NONE);
            due("its text", x.form(2, 2, 2), 2);
        }
    }

    static void promise04FormOfNoBoxLeavesTheForm() {
        CastWorks x = drawn(CUBE, 1, 1, 1);
        x.pour(4);
        lay(x, "box");
        due("form of no box, with a FAULT in its text", x.form(9, 8, 8), -2);
        due("fault(0)", x.fault(0), 0);
        due("the FORM", x.solid(0, 0, 0), 1);
        due("its box", x.solid(1, 0, 0), NONE);
        due("its DRAWING", x.way(1), 1);
        due("its POURS", x.piece(0, 4), 4);
    }

    static void promise04FormWithAFaultLeavesTheForm() {
        String[] faults = {"hole 0 0 0 1 1 1;bo", "box 0 0 0 9 9 9;box 0 0 0 1 0 1;", "box 1 1 1 1 1 1;turn;", "x", ";"};
        for (String text : faults) {
            CastWorks x = drawn("box 0 0 0 1 2 1;", 2, 3, 2);
            int pieces = x.draw();
            x.pour(3);
            due("form of '" + text + "'", make(x, text, 8, 7, 8), NONE);
            due("solid", x.solid(0, 0, 0) * 10 + x.solid(0, 1, 0), 11);
            due("not solid", x.solid(1, 1, 1) + x.solid(0, 2, 0), 0);
            due("its box", x.solid(2, 0, 0) + x.solid(0, 3, 0) + x.solid(0, 0, 2), 3 * NONE);
            due("its MOULD", x.free(2, 3, 2), 63);
            due("its MOULD's end", x.free(3, 3, 2), NONE);
            due("its DRAWING", x.piece(pieces - 1, 1) > 0, true);
            due("its POURS", x.piece(0, 4), 3);
            due("the tape is gone", x.end(1), false);
        }
    }

    static void promise04FormWithAFaultAndNoneBefore() {
        CastWorks x = new CastWorks();
        due("form", make(x, "box 0 0 0 1 1 1;x", 1, 1, 1), NONE);
        due("solid", x.solid(0, 0, 0), NONE);
        due("free", x.free(-1, -1, -1), NONE);
        due("shut", x.shut(), NONE);
        due("draw", x.draw(), -1);
        due("the tape is gone", x.end(1), false);
    }

    static void promise04FormTakesTheTapeAndTheDrawing() {
        CastWorks x = drawn(CUBE, 1, 1, 1);
        due("the tape is gone", x.end(1), false);
        due("there is a DRAWING", x.way(0), 0);
        due("form of an empty tape", x.form(1, 1, 1), 0);
        due("way", x.way(0), NONE);
        due("pieceAt", x.pieceAt(-1, -1, -1), NONE);
        due("piece", x.piece(0, 1), NONE);
        due("pour", x.pour(1), NONE);
        due("run", x.run(1), NONE);
        due("mend", x.mend(0), NONE);
        due("solid", x.solid(0, 0, 0), 0);
        due("the same form again", make(x, CUBE, 1, 1, 1), 1);
        due("way", x.way(0), NONE);
    }

    private static final String[] PARTS = {"box", "0", "0", "0", "2", "1", "1", ";", "hole", "0", "0", "0", "1", "1", "1",
        ";", "mirror", "x", ";", "turn", ";"};

    /** The text of all parts with one blank wherever it is needed, but for one gap: that is filled as is said. */
    private static String textWithGap(int gap, String filling) {
        StringBuilder text = new StringBuilder();
        for (int i = 0; i <= PARTS.length; i++) {
            text.append(i == gap ? filling : needsBlank(i) ? " " : "");
            text.append(i < PARTS.length ? PARTS[i] : "");
        }
        return text.toString();
    }

    private static boolean needsBlank(int gap) {
        return gap > 0 && gap < PARTS.length && !PARTS[gap - 1].equals(";") && !PARTS[gap].equals(";");
    }

    private static int placeOfGap(int gap) {
        String marked = textWithGap(gap, "#");
        return marked.indexOf('#');
    }

    static void promise04FormWithBlanksWhereOneLikes() {
        for (int gap = 0; gap <= PARTS.length; gap++) {
            for (String blanks : new String[] {" ", "\n", "  ", "\n\n", " \n \n"}) {
                soundDue(textWithGap(gap, blanks), 2, 2, 2, 2);
            }
            for (char other : new char[] {0, 9, 11, 13, 31, 33, 160, 255}) {
                faultDue(textWithGap(gap, " " + other), 2, 2, 1, placeOfGap(gap) + 1);
            }
        }
    }

    static void promise04FormOfAnEmptyText() {
        soundDue("", 1, 1, 1, 0);
        soundDue("", 8, 8, 8, 0);
        soundDue(" ", 1, 1, 1, 0);
        soundDue("\n", 1, 1, 1, 0);
        soundDue(blanks(400), 8, 8, 8, 0);
    }

    static void promise04FormOfAFullTape() {
        StringBuilder turns = new StringBuilder("box 0 0 0 2 1 1;");
        for (int i = 0; i < 76; i++) {
            turns.append("turn;");
        }
        soundDue(turns + "   \n", 8, 8, 8, 2);
        CastWorks x = formed(turns + "   \n", 8, 8, 8);
        due("76 turns come round", x.solid(0, 0, 0) * 10 + x.solid(1, 0, 0), 11);
        soundDue(blanks(384) + CUBE, 1, 1, 1, 1);
        StringBuilder turnsAlone = new StringBuilder();
        for (int i = 0; i < 80; i++) {
            turnsAlone.append("turn;");
        }
        soundDue(turnsAlone.toString(), 8, 8, 1, 0);
    }

    static void promise04FormLeavesOutWhatIsBeyondTheBox() {
        for (int axis = 0; axis < 3; axis++) {
            for (int from = 0; from <= 9; from++) {
                for (int length = 1; length <= 9; length++) {
                    int within = Math.max(0, Math.min(8, from + length) - from);
                    String box = block("box", axis, from, length);
                    due(box, lineForm(new CastWorks(), box, axis), within);
                    String hole = "box 0 0 0 9 9 9;" + block("hole", axis, from, length);
                    due(hole, lineForm(new CastWorks(), hole, axis), 8 - within);
                }
            }
        }
    }

    static void promise04FormOfBlocksFromTheirFirstToTheirLastCell() {
        CastWorks x = formed("box 2 3 1 3 2 4;", 8, 8, 8);
        CastWorks y = formed("box 0 0 0 8 8 8;hole 2 3 1 3 2 4;", 8, 8, 8);
        int[][] within = {{2, 3, 1}, {4, 4, 4}, {2, 4, 4}, {4, 3, 1}, {3, 3, 2}};
        int[][] beside = {{1, 3, 1}, {2, 2, 1}, {2, 3, 0}, {5, 4, 4}, {4, 5, 4}, {4, 4, 5}};
        for (int[] cell : within) {
            due("solid in a box", x.solid(cell[0], cell[1], cell[2]), 1);
            due("solid in a hole", y.solid(cell[0], cell[1], cell[2]), 0);
        }
        for (int[] cell : beside) {
            due("solid beside a box", x.solid(cell[0], cell[1], cell[2]), 0);
            due("solid beside a hole", y.solid(cell[0], cell[1], cell[2]), 1);
        }
        due("form of a hole in nothing", make(x, "hole 0 0 0 9 9 9;", 8, 8, 8), 0);
        due("form, its statements in a row", make(x, "box 0 0 0 3 1 1;hole 0 0 0 2 1 1;box 0 0 0 1 1 1;", 3, 1, 1), 2);
    }

    static void promise04FormMirroredInItsMiddle() {
        for (int axis = 0; axis < 3; axis++) {
            char name = "xyz".charAt(axis);
            for (int side = 1; side <= 8; side++) {
                for (int at = 0; at < side; at += Math.max(1, side / 2)) {
                    CastWorks x = new CastWorks();
                    int other = side - 1 - at;
                    int[] sides = {2, 2, 2};
                    sides[axis] = side;
                    String text = block("box", axis, at, 1) + "mirror " + name + ";";
                    due("form of '" + text + "'", make(x, text, sides[0], sides[1], sides[2]), at == other ? 1 : 2);
                    due("the glass's cell", x.solid(axis == 0 ? other : 0, axis == 1 ? other : 0, axis == 2 ? other : 0), 1);
                    due("the cell itself", x.solid(axis == 0 ? at : 0, axis == 1 ? at : 0, axis == 2 ? at : 0), 1);
                }
            }
        }
        soundDue("mirror x;mirror y;mirror z;", 8, 8, 8, 0);
        soundDue("box 0 0 0 1 1 1;mirror x;mirror y;mirror z;", 8, 8, 8, 8);
        soundDue("box 0 0 0 1 1 1;mirror x;mirror x;", 8, 8, 8, 2);
        soundDue("box 0 0 0 8 8 8;mirror x;mirror y;mirror z;", 8, 8, 8, 512);
    }

    static void promise04FormTurnedAtItsCorners() {
        for (int side = 1; side <= 8; side++) {
            int last = side - 1;
            CastWorks x = new CastWorks();
            due("form", make(x, "box 0 0 0 1 1 1;turn;", side, side, 2), 1);
            due("0, 0 comes to 0, last", x.solid(0, last, 0), 1);
            make(x, "box " + last + " 0 1 1 1 1;turn;", side, side, 2);
            due("last, 0 comes to 0, 0", x.solid(0, 0, 1), 1);
            make(x, "box " + last + " " + last + " 0 1 1 1;turn;", side, side, 2);
            due("last, last comes to last, 0", x.solid(last, 0, 0), 1);
            make(x, "box 0 " + last + " 0 1 1 1;turn;", side, side, 2);
            due("0, last comes to last, last", x.solid(last, last, 0), 1);
            due("form", make(x, "box 0 0 0 1 1 1;turn;turn;turn;turn;", side, side, 2), 1);
            due("four turns come round", x.solid(0, 0, 0), 1);
        }
        CastWorks x = formed("box 1 0 0 1 1 1;turn;", 3, 3, 1);
        due("1, 0 comes to 0, 1", x.solid(0, 1, 0), 1);
        due("and leaves its place", x.solid(1, 0, 0), 0);
        soundDue("box 0 0 0 8 8 8;turn;", 8, 8, 8, 512);
    }

    static void promise04FormTurnedOnlyIfWideAndHighAreAlike() {
        for (int wide = 1; wide <= 8; wide++) {
            for (int high = 1; high <= 8; high++) {
                CastWorks x = new CastWorks();
                int deep = 1 + (wide + high) % 8;
                due("form of turn", make(x, "box 0 0 0 1 1 1;turn;", wide, high, deep), wide == high ? 1 : NONE);
                due("its fault", x.fault(0), wide == high ? 0 : 2);
                due("its place", x.fault(1), wide == high ? NONE : 16);
            }
        }
    }

    // ---- promise 5: fault

    static void promise05FaultAheadOfAny() {
        CastWorks x = new CastWorks();
        due("fault(0)", x.fault(0), 0);
        due("fault(1)", x.fault(1), NONE);
        lay(x, "x");
        due("form of no box", x.form(0, 1, 1), -2);
        due("fault(0) with nothing but -2", x.fault(0), 0);
        due("fault(1) with nothing but -2", x.fault(1), NONE);
    }

    static void promise05FaultOfAnotherWhat() {
        for (String text : new String[] {"", "bo", "box 0 0 0 0 0 0;"}) {
            CastWorks x = formed(text, 1, 1, 1);
            due("fault(-1)", x.fault(-1), NONE);
            due("fault(2)", x.fault(2), NONE);
            due("fault(3)", x.fault(3), NONE);
            for (int what : FAR_OFF) {
                due("fault(" + what + ")", x.fault(what), NONE);
            }
        }
    }

    static void promise05FaultGoesWithASoundForm() {
        CastWorks x = formed("box 0 0 0 0 1 1;", 1, 1, 1);
        due("fault(0)", x.fault(0), 2);
        due("fault(1)", x.fault(1), 10);
        due("form", make(x, "", 1, 1, 1), 0);
        due("fault(0)", x.fault(0), 0);
        due("fault(1)", x.fault(1), NONE);
        make(x, ";", 1, 1, 1);
        due("fault(0)", x.fault(0), 1);
        due("fault(1)", x.fault(1), 0);
    }

    static void promise05FaultStaysWithABoxThatCantBe() {
        CastWorks x = formed("turn;", 2, 1, 1);
        for (int[] box : new int[][] {{0, 1, 1}, {1, 9, 1}, {1, 1, 0}, {9, 9, 9}}) {
            lay(x, CUBE);
            due("form of no box", x.form(box[0], box[1], box[2]), -2);
            due("fault(0)", x.fault(0), 2);
            due("fault(1)", x.fault(1), 0);
        }
    }

    static void promise05FaultAtEachByteButBlanks() {
        for (int value = 0; value < 256; value++) {
            String text = "turn" + (char) value + ";";
            if (isBlank(value)) {
                soundDue(text, 2, 2, 2, 0);
            } else {
                faultDue(text, 2, 2, 1, isLetter(value) ? 0 : value == ';' ? 5 : 4);
            }
        }
    }

    static void promise05FaultAtEachByteButDigits() {
        for (int value = 0; value < 256; value++) {
            String text = "box " + (char) value + " 0 0 1 1 1;";
            if (value >= '0' && value <= '9') {
                soundDue(text, 8, 1, 1, value < '8' ? 1 : 0);
            } else {
                faultDue(text, 2, 2, 1, isBlank(value) ? 15 : 4);
            }
        }
    }

    static void promise05FaultAtEachByteButAxes() {
        for (int value = 0; value < 256; value++) {
            String text = "mirror " + (char) value + " ;";
            if (value >= 'x' && value <= 'z') {
                soundDue(text, 2, 3, 4, 0);
            } else {
                faultDue(text, 2, 2, 1, isBlank(value) ? 9 : 7);
            }
        }
    }

    static void promise05FaultAtEachByteButStatements() {
        for (int value = 0; value < 256; value++) {
            if (isBlank(value)) {
                soundDue("turn;" + (char) value, 2, 2, 2, 0);
                soundDue((char) value + "turn;", 2, 2, 2, 0);
            } else {
                faultDue("turn;" + (char) value, 2, 2, 1, 5);
                faultDue((char) value + ";", 2, 2, 1, 0);
            }
        }
    }

    static void promise05FaultOfWordsWholeAtTheirFirstByte() {
        for (String word : new String[] {"box", "hole", "mirror", "turn"}) {
            for (int length = 1; length < word.length(); length++) {
                faultDue(" " + word.substring(0, length), 2, 2, 1, 1);
                faultDue(" " + word.substring(0, length) + " 0 0 0 1 1 1;", 2, 2, 1, 1);
            }
            for (char more = 'a'; more <= 'z'; more++) {
                faultDue("turn; " + word + more + " 0 0 0 1 1 1;", 2, 2, 1, 6);
            }
            faultDue(word + word + ";", 2, 2, 1, 0);
            faultDue(word.substring(1) + ";", 2, 2, 1, 0);
            faultDue((char) (word.charAt(0) - 32) + word.substring(1) + ";", 2, 2, 1, 0);
        }
        faultDue("mirror xx;", 2, 2, 1, 7);
        faultDue("mirror turn;", 2, 2, 1, 7);
        faultDue("box box 0 0 0 1 1 1;", 2, 2, 1, 4);
    }

    static void promise05FaultWithoutABlankThatIsNeeded() {
        faultDue("box0 0 0 1 1 1;", 2, 2, 1, 3);
        faultDue("hole0 0 0 1 1 1;", 2, 2, 1, 4);
        faultDue("mirrorx;", 2, 2, 1, 0);
        faultDue("box 000111;", 2, 2, 1, 5);
        faultDue("turn0;", 2, 2, 1, 4);
        soundDue("turn;turn;box 0 0 0 1 1 1;hole 0 0 0 1 1 1;mirror x;mirror y;turn;", 2, 2, 2, 0);
        soundDue("\n \nbox\n0\n0 \n 0\n1\n1\n1\n;\n\nturn\n;\nmirror\nz\n;\n", 2, 2, 2, 2);
    }

    static void promise05FaultWithoutABlankInAnyGap() {
        for (int gap = 0; gap <= PARTS.length; gap++) {
            String text = textWithGap(gap, "");
            if (!needsBlank(gap)) {
                soundDue(text, 2, 2, 2, 2);
            } else if (isLetter(PARTS[gap].charAt(0))) {
                faultDue(text, 2, 2, 1, placeOfGap(gap) - PARTS[gap - 1].length());
            } else {
                faultDue(text, 2, 2, 1, placeOfGap(gap));
            }
        }
    }

    static void promise05FaultOfASecondDigitAtItself() {
        int[] places = {4, 6, 8, 10, 12, 14};
        for (int i = 0; i < 6; i++) {
            for (int digit = 0; digit <= 9; digit++) {
                String text = "box 1 1 1 1 1 1;";
                faultDue(text.substring(0, places[i] + 1) + digit + text.substring(places[i] + 1), 2, 2, 1, places[i] + 1);
            }
        }
    }

    static void promise05FaultAtTheLengthIfItEndsTooSoon() {
        for (String text : new String[] {CUBE, "hole 0 0 0 1 1 1 ;", "mirror x ;", "turn\n;"}) {
            int word = Math.min(text.replace('\n', ' ').indexOf(' '), text.indexOf(';'));
            for (int length = word; length < text.length(); length++) {
                faultDue(text.substring(0, length), 2, 2, 1, length);
                faultDue("turn;" + text.substring(0, length) + "\n ", 2, 2, 1, length + 7);
            }
        }
        faultDue(blanks(396) + "turn", 2, 2, 1, 400);
        faultDue(blanks(395) + "turn", 2, 2, 1, 399);
        faultDue(blanks(399) + ";", 2, 2, 1, 399);
        faultDue(blanks(399) + "\u00ff", 2, 2, 1, 399);
    }

    static void promise05FaultOfStatementsThatAreTooShortOrTooLong() {
        faultDue(";", 2, 2, 1, 0);
        faultDue("turn;;", 2, 2, 1, 5);
        faultDue("turn; ;", 2, 2, 1, 6);
        faultDue("box;", 2, 2, 1, 3);
        faultDue("box 0 0 0 1 1 ;", 2, 2, 1, 14);
        faultDue("box 0 0 0 1 1 1 1;", 2, 2, 1, 16);
        faultDue("box 0 0 0 1 1 1 0;", 2, 2, 1, 16);
        faultDue("mirror;", 2, 2, 1, 6);
        faultDue("mirror x y;", 2, 2, 1, 9);
        faultDue("turn 1;", 2, 2, 1, 5);
        faultDue("turn turn;", 2, 2, 1, 5);
        faultDue("turn x;", 2, 2, 1, 5);
    }

    static void promise05FaultOfLengthsThatAre0WhateverIsBehind() {
        for (int place : new int[] {10, 12, 14}) {
            String ahead = CUBE.substring(0, place);
            String rest = CUBE.substring(place + 1);
            for (String behind : new String[] {"", ";", " ", "0", "9", "x", "#", " bo", "\u00ff", rest}) {
                faultDue(ahead + "0" + behind, 2, 2, 2, place);
                faultDue("hole" + ahead.substring(3) + "0" + behind, 2, 2, 2, place + 1);
            }
            soundDue(ahead + "1" + rest, 1, 1, 1, 1);
            soundDue(ahead + "9" + rest, 1, 1, 1, 1);
        }
        faultDue("box 0 0 0 0 0 0;", 2, 2, 2, 10);
    }

    static void promise05FaultOfTurnAtItsFirstByte() {
        for (String behind : new String[] {";", "", " ;", "#", "0", " x", ";bo"}) {
            faultDue(" turn" + behind, 2, 3, 2, 1);
            faultDue("box 0 0 0 1 1 1;turn" + behind, 8, 7, 2, 16);
        }
        faultDue("turns;", 2, 3, 1, 0);
    }

    static void promise05FaultIsTheFirstAlongTheText() {
        faultDue("bo; turn; box 0 0 0 0 1 1;", 2, 3, 1, 0);
        faultDue("turn; bo;", 2, 3, 2, 0);
        faultDue("box 0 0 0 0 1 1; turn; bo;", 2, 3, 2, 10);
        faultDue("box 0 0 x 0 1 1;", 2, 2, 1, 8);
        faultDue("box 0 0 0 1 x 0;", 2, 2, 1, 12);
        faultDue("box 0 0 0 1 1 1;;turn;", 2, 3, 1, 16);
    }
}
