/** The edges of promises 6 to 12: forms, moulds and their drawings. */
public final class MouldEdges extends Checks {
    private MouldEdges() {
    }

    public static void main(String[] args) {
        runTests(MouldEdges.class, args, 6, 12);
    }

    // ---- promise 6: solid

    static void promise06SolidWithinItsBoxAlone() {
        CastWorks x = formed(CUBE, 2, 3, 1);
        for (int cx = -2; cx <= 3; cx++) {
            for (int cy = -2; cy <= 4; cy++) {
                for (int cz = -2; cz <= 2; cz++) {
                    boolean within = cx >= 0 && cx < 2 && cy >= 0 && cy < 3 && cz == 0;
                    due("solid(" + cx + ", " + cy + ", " + cz + ")", x.solid(cx, cy, cz),
                            within ? cx + cy == 0 ? 1 : 0 : NONE);
                }
            }
        }
    }

    static void promise06SolidAtTheEndsOfTheGreatestBox() {
        CastWorks x = formed("box 0 0 0 8 8 8;", 8, 8, 8);
        for (int at = -3; at <= 10; at++) {
            int want = at >= 0 && at <= 7 ? 1 : NONE;
            due("solid along x", x.solid(at, 0, 7), want);
            due("solid along y", x.solid(7, at, 0), want);
            due("solid along z", x.solid(0, 7, at), want);
        }
        for (int far : FAR_OFF) {
            due("solid along x", x.solid(far, 0, 0), NONE);
            due("solid along y", x.solid(0, far, 0), NONE);
            due("solid along z", x.solid(0, 0, far), NONE);
            due("solid", x.solid(far, far, far), NONE);
        }
    }

    static void promise06SolidOfTheLatestBox() {
        CastWorks x = formed("box 0 0 0 8 8 8;", 8, 8, 8);
        make(x, "", 1, 2, 3);
        due("solid", x.solid(0, 1, 2), 0);
        due("beyond it", x.solid(1, 0, 0) + x.solid(0, 2, 0) + x.solid(0, 0, 3), 3 * NONE);
        make(x, "", 8, 8, 8);
        due("nothing has stayed of the first", x.solid(7, 7, 7) + x.solid(0, 0, 0), 0);
    }

    // ---- promise 7: free

    static void promise07FreeWithinTheMouldAlone() {
        CastWorks x = formed("", 2, 3, 1);
        for (int cx = -2; cx <= 3; cx++) {
            for (int cy = -2; cy <= 4; cy++) {
                for (int cz = -2; cz <= 2; cz++) {
                    boolean within = cx >= -1 && cx <= 2 && cy >= -1 && cy <= 3 && cz >= -1 && cz <= 1;
                    due("free(" + cx + ", " + cy + ", " + cz + ")", x.free(cx, cy, cz), within ? 63 : NONE);
                }
            }
        }
    }

    static void promise07FreeAtTheEndsOfTheGreatestMould() {
        CastWorks x = formed("", 8, 8, 8);
        for (int at = -3; at <= 10; at++) {
            int want = at >= -1 && at <= 8 ? 63 : NONE;
            due("free along x", x.free(at, -1, 8), want);
            due("free along y", x.free(8, at, -1), want);
            due("free along z", x.free(-1, 8, at), want);
        }
        for (int far : FAR_OFF) {
            due("free along x", x.free(far, 0, 0), NONE);
            due("free along y", x.free(0, far, 0), NONE);
            due("free along z", x.free(0, 0, far), NONE);
            due("free", x.free(far, far, far), NONE);
        }
    }

    private static int freeOnLine(CastWorks x, int axis, int at) {
        return x.free(axis == 0 ? at : 0, axis == 1 ? at : 0, axis == 2 ? at : 0);
    }

    static void promise07FreeToTheEndOfTheMould() {
        for (int axis = 0; axis < 3; axis++) {
            for (int stone = 0; stone < 8; stone++) {
                CastWorks x = new CastWorks();
                due("form", lineForm(x, block("box", axis, stone, 1), axis), 1);
                for (int at = -2; at <= 9; at++) {
                    int along = at > stone ? 1 : 2;
                    int want = 63 - (3 << 2 * axis) + (along << 2 * axis);
                    due("free at " + at + " with " + stone + " along " + axis, freeOnLine(x, axis, at),
                            at < -1 || at > 8 || at == stone ? NONE : want);
                }
            }
        }
    }

    static void promise07FreeByNoWayIs0() {
        CastWorks x = formed(SHUT_IN, 3, 3, 3);
        due("shut in", x.free(1, 1, 1), 0);
        due("solid", x.free(0, 1, 1), NONE);
        String[] openings = {"2 1 1", "0 1 1", "1 2 1", "1 0 1", "1 1 2", "1 1 0"};
        for (int way = 0; way < 6; way++) {
            make(x, SHUT_IN + "hole " + openings[way] + " 1 1 1;", 3, 3, 3);
            due("open by one way", x.free(1, 1, 1), 1 << way);
        }
    }

    // ---- promise 8: shut

    static void promise08ShutWithoutAForm() {
        CastWorks x = new CastWorks();
        due("shut", x.shut(), NONE);
        lay(x, CUBE);
        x.form(9, 1, 1);
        due("with a box that can't be", x.shut(), NONE);
        make(x, "x", 1, 1, 1);
        due("with a FAULT", x.shut(), NONE);
        make(x, "", 1, 1, 1);
        due("with a FORM", x.shut(), 0);
    }

    static void promise08ShutFromNoneToAll() {
        due("nothing solid", formed("", 8, 8, 8).shut(), 0);
        due("all solid", formed("box 0 0 0 8 8 8;", 8, 8, 8).shut(), 0);
        due("one", formed(SHUT_IN, 3, 3, 3).shut(), 1);
        due("as many as can be", formed("box 0 0 0 8 8 8;hole 1 1 1 6 6 6;", 8, 8, 8).shut(), 216);
        due("one way is enough", formed(SHUT_IN + "hole 1 1 0 1 1 1;", 3, 3, 3).shut(), 0);
        due("a way through", formed(SHUT_IN + "hole 1 0 1 1 3 1;", 3, 3, 3).shut(), 0);
    }

    static void promise08ShutOfTheLatestForm() {
        CastWorks x = formed(SHUT_IN, 3, 3, 3);
        make(x, "hole", 3, 3, 3);
        due("the FORM stays with a FAULT", x.shut(), 1);
        x.form(0, 0, 0);
        due("the FORM stays with no box", x.shut(), 1);
        make(x, "", 3, 3, 3);
        due("another FORM", x.shut(), 0);
    }

    // ---- promise 9: draw

    static void promise09DrawWithoutAForm() {
        CastWorks x = new CastWorks();
        due("draw", x.draw(), -1);
        lay(x, CUBE);
        x.form(1, 1, 9);
        due("with a box that can't be", x.draw(), -1);
        make(x, "x", 1, 1, 1);
        due("with a FAULT", x.draw(), -1);
        due("way", x.way(0), NONE);
    }

    static void promise09DrawOfACellThatIsFreeByNoWay() {
        CastWorks x = formed(SHUT_IN, 3, 3, 3);
        due("draw", x.draw(), -2);
        due("draw again", x.draw(), -2);
        due("way", x.way(0), NONE);
        due("pieceAt", x.pieceAt(-1, -1, -1), NONE);
        due("piece", x.piece(0, 0), NONE);
        due("pour", x.pour(1), NONE);
        due("run", x.run(1), NONE);
        due("mend", x.mend(0), NONE);
        due("free by one way", make(x, SHUT_IN + "hole 1 1 2 1 1 1;", 3, 3, 3), 25);
        due("draw", x.draw(), 2);
        make(x, "box 0 0 0 8 8 8;hole 1 1 1 6 6 6;", 8, 8, 8);
        due("draw, 216 are shut", x.draw(), -2);
        due("no DRAWING of the FORM before", x.way(0), NONE);
        due("no PIECES of the FORM before", x.piece(0, 1), NONE);
    }

    static void promise09DrawOfNothingSolid() {
        CastWorks x = formed("", 1, 1, 1);
        due("draw", x.draw(), 1);
        due("its WAY", x.way(0), 0);
        due("its CELLS", x.piece(0, 1), 27);
        make(x, "", 8, 8, 8);
        due("draw", x.draw(), 1);
        due("its WAY", x.way(0), 0);
        due("its CELLS", x.piece(0, 1), 1000);
    }

    static void promise09DrawAgainFindsTheSame() {
        String[] texts = {"", CUBE, SHUT_IN + "hole 1 2 1 1 1 1;", "box 0 0 0 1 1 1;mirror x;mirror y;mirror z;", SHUT_IN};
        for (String text : texts) {
            CastWorks x = formed(text, 3, 3, 3);
            int pieces = x.draw();
            int first = x.way(0);
            int cells = x.piece(0, 1);
            due("draw again", x.draw(), pieces);
            due("draw a third time", x.draw(), pieces);
            due("its first WAY", x.way(0), first);
            due("the CELLS of its first PIECE", x.piece(0, 1), cells);
            due("no PIECE more", x.piece(Math.max(0, pieces), 1), NONE);
        }
    }

    static void promise09DrawOfAllSolid() {
        CastWorks x = formed("box 0 0 0 8 8 8;", 8, 8, 8);
        due("draw", x.draw(), 2);
        due("its WAYS", x.way(0) * 10 + x.way(1), 1);
        due("what one WAY leaves", x.piece(1, 1), 64);
        due("all CELLS", x.piece(0, 1) + x.piece(1, 1), 1000 - 512);
        due("all that touch", x.piece(0, 2) + x.piece(1, 2), 6 * 64);
    }

    static void promise09DrawTakesBackPours() {
        CastWorks x = drawn(CUBE, 1, 1, 1);
        x.pour(15);
        due("poured", x.piece(0, 4) + x.piece(1, 4), 30);
        due("draw", x.draw(), 2);
        due("nothing was poured", x.piece(0, 4) + x.piece(1, 4), 0);
        due("as many once more", x.pour(1000), 15);
        x.run(1);
        due("draw", x.draw(), 2);
        due("nothing was poured", x.piece(0, 4) + x.piece(1, 4), 0);
    }

    static void promise09DrawWithTheFewestWays() {
        // With the ways 0, 1, 2 it would be 3 PIECES, but these are more WAYS.
        CastWorks x = formed("box 3 1 0 1 1 1;box 1 1 1 1 1 1;box 5 0 0 1 1 1;box 2 0 2 1 1 1;box 5 2 2 1 1 3;"
                + "box 2 1 2 1 1 1;box 4 0 2 1 1 1;", 6, 3, 3);
        due("draw", x.draw(), 4);
        due("its WAYS", x.way(0) * 10 + x.way(1), 42);
        due("no third WAY", x.way(2), NONE);
    }

    static void promise09DrawWithTheFewestPieces() {
        // The lesser WAYS 0, 1 would do too, but with 3 PIECES.
        CastWorks x = formed("box 1 0 0 2 1 2;box 2 2 1 1 2 1;", 3, 3, 2);
        due("draw", x.draw(), 2);
        due("its WAYS", x.way(0) * 10 + x.way(1), 31);
    }

    static void promise09DrawWithTheLesserWays() {
        String[] openings = {"2 1 1", "0 1 1", "1 2 1", "1 0 1", "1 1 2", "1 1 0"};
        // A pit needs its own WAY; of all orders with 2 PIECES these are the ones with the lesser WAY first.
        int[][] lesser = {{0, 1}, {0, 1}, {2, 0}, {2, 3}, {4, 0}, {4, 5}};
        for (int way = 0; way < 6; way++) {
            CastWorks x = formed(SHUT_IN + "hole " + openings[way] + " 1 1 1;", 3, 3, 3);
            due("draw of a pit by " + way, x.draw(), 2);
            due("its first WAY", x.way(0), lesser[way][0]);
            due("its second WAY", x.way(1), lesser[way][1]);
        }
    }

    // ---- promise 10: way

    private static final String PITS = "box 0 0 0 5 5 5;hole 2 2 0 1 1 1;hole 2 2 4 1 1 1;hole 2 0 2 1 1 1;"
            + "hole 2 4 2 1 1 1;hole 0 2 2 1 1 1;hole 4 2 2 1 1 1;";

    static void promise10WayWithoutADrawing() {
        CastWorks x = formed(CUBE, 1, 1, 1);
        due("ahead of draw", x.way(0), NONE);
        x.draw();
        due("with one", x.way(0), 0);
        make(x, CUBE, 1, 1, 1);
        due("behind form", x.way(0), NONE);
        make(x, SHUT_IN, 3, 3, 3);
        x.draw();
        due("with none found", x.way(0), NONE);
    }

    static void promise10WayFromTheFirstToTheLast() {
        waysDue(drawn("", 1, 1, 1), 1);
        waysDue(drawn(CUBE, 1, 1, 1), 2);
        waysDue(drawn(PITS, 5, 5, 5), 6);
    }

    private static void waysDue(CastWorks x, int count) {
        for (int i = 0; i < count; i++) {
            due("way(" + i + ")", x.way(i), i);
        }
        due("way(-1)", x.way(-1), NONE);
        due("way behind the last", x.way(count), NONE);
        due("way(6)", x.way(6), NONE);
        for (int far : FAR_OFF) {
            due("way(" + far + ")", x.way(far), NONE);
        }
    }

    static void promise10WaysThatWereMoreBefore() {
        CastWorks x = drawn(PITS, 5, 5, 5);
        make(x, CUBE, 1, 1, 1);
        x.draw();
        due("way(1)", x.way(1), 1);
        due("way(2)", x.way(2), NONE);
    }

    // ---- promise 11: pieceAt

    static void promise11PieceAtWithinTheMouldAlone() {
        CastWorks x = drawn(CUBE, 2, 3, 1);
        CastWorks y = formed(CUBE, 2, 3, 1);
        for (int cx = -2; cx <= 3; cx++) {
            for (int cy = -2; cy <= 4; cy++) {
                for (int cz = -2; cz <= 2; cz++) {
                    int free = y.free(cx, cy, cz);
                    due("pieceAt(" + cx + ", " + cy + ", " + cz + ")", x.pieceAt(cx, cy, cz),
                            free == NONE ? NONE : 1 - (free & 1));
                }
            }
        }
    }

    static void promise11PieceAtTheEndsOfTheGreatestMould() {
        CastWorks x = drawn("", 8, 8, 8);
        for (int at = -3; at <= 10; at++) {
            int want = at >= -1 && at <= 8 ? 0 : NONE;
            due("pieceAt along x", x.pieceAt(at, -1, 8), want);
            due("pieceAt along y", x.pieceAt(8, at, -1), want);
            due("pieceAt along z", x.pieceAt(-1, 8, at), want);
        }
        for (int far : FAR_OFF) {
            due("pieceAt along x", x.pieceAt(far, 0, 0), NONE);
            due("pieceAt along y", x.pieceAt(0, far, 0), NONE);
            due("pieceAt along z", x.pieceAt(0, 0, far), NONE);
        }
    }

    static void promise11PieceAtWithoutADrawing() {
        CastWorks x = new CastWorks();
        due("without a FORM", x.pieceAt(-1, -1, -1), NONE);
        make(x, CUBE, 1, 1, 1);
        due("ahead of draw", x.pieceAt(-1, -1, -1), NONE);
        x.draw();
        due("with one", x.pieceAt(-1, -1, -1), 0);
        due("the last PIECE", x.pieceAt(-1, 0, 0), 1);
        due("a solid one", x.pieceAt(0, 0, 0), NONE);
        make(x, CUBE, 1, 1, 1);
        due("behind form", x.pieceAt(-1, -1, -1), NONE);
        make(x, SHUT_IN, 3, 3, 3);
        x.draw();
        due("with none found", x.pieceAt(-1, -1, -1), NONE);
        due("a CELL that is shut in", x.pieceAt(1, 1, 1), NONE);
    }

    private static final int[][] STEPS = {{1, 0, 0}, {-1, 0, 0}, {0, 1, 0}, {0, -1, 0}, {0, 0, 1}, {0, 0, -1}};

    private static final String[] FORMS = {"", "box 0 0 0 5 5 5;", PITS, CUBE, "box 1 1 1 1 1 1;box 3 3 3 1 1 1;",
        "box 0 0 0 5 1 2;hole 1 0 1 1 1 1;hole 3 0 1 1 1 1;", "box 0 0 0 1 1 1;mirror x;mirror y;mirror z;",
        "box 0 0 0 5 5 1;box 2 2 1 1 1 3;box 1 1 4 3 3 1;", "box 0 0 0 5 5 5;hole 1 1 1 3 3 4;hole 2 0 2 1 5 1;"};

    /** What each CELL of the box of 7 by 7 by 7 has, by z, then y, then x. */
    private static final int ALL = 343;

    private static int[] cell(int at) {
        return new int[] {at % 7 - 1, at / 7 % 7 - 1, at / 49 - 1};
    }

    private static int[] allFree(String text) {
        CastWorks x = formed(text, 5, 5, 5);
        int[] all = new int[ALL];
        for (int at = 0; at < ALL; at++) {
            int[] cell = cell(at);
            all[at] = x.free(cell[0], cell[1], cell[2]);
        }
        return all;
    }

    private static int[] allPieces(CastWorks x) {
        int[] all = new int[ALL];
        for (int at = 0; at < ALL; at++) {
            int[] cell = cell(at);
            all[at] = x.pieceAt(cell[0], cell[1], cell[2]);
        }
        return all;
    }

    private static int besideOf(int at, int[] step) {
        int[] cell = cell(at);
        for (int axis = 0; axis < 3; axis++) {
            cell[axis] += step[axis];
            if (cell[axis] < -1 || cell[axis] > 5) {
                return NONE;
            }
        }
        return (cell[2] + 1) * 49 + (cell[1] + 1) * 7 + cell[0] + 1;
    }

    private static int firstWayByWhichFree(int[] ways, int free) {
        for (int way : ways) {
            if (way != NONE && (free >> way & 1) == 1) {
                return way;
            }
        }
        return NONE;
    }

    private static int[] waysOfPieces(CastWorks x, int count) {
        int[] ways = new int[count];
        for (int p = 0; p < count; p++) {
            ways[p] = x.piece(p, 0);
        }
        return ways;
    }

    static void promise11PieceAtIsOfTheFirstWayByWhichTheCellIsFree() {
        for (String text : FORMS) {
            CastWorks x = formed(text, 5, 5, 5);
            int[] wayOf = waysOfPieces(x, x.draw());
            int[] ways = {x.way(0), x.way(1), x.way(2), x.way(3), x.way(4), x.way(5)};
            int[] free = allFree(text);
            int[] pieces = allPieces(x);
            for (int at = 0; at < ALL; at++) {
                due("whether it has a PIECE at " + at + " of '" + text + "'", pieces[at] != NONE, free[at] != NONE);
                if (pieces[at] != NONE) {
                    due("its WAY at " + at + " of '" + text + "'", wayOf[pieces[at]], firstWayByWhichFree(ways, free[at]));
                }
            }
        }
    }

    static void promise11PieceAtHangsTogetherBySides() {
        for (String text : FORMS) {
            CastWorks x = formed(text, 5, 5, 5);
            int[] wayOf = waysOfPieces(x, x.draw());
            int[] pieces = allPieces(x);
            for (int at = 0; at < ALL; at++) {
                for (int[] step : STEPS) {
                    int other = besideOf(at, step);
                    if (other != NONE && pieces[at] != NONE && pieces[other] != NONE) {
                        due("whether what is beside " + at + " is of its PIECE, in '" + text + "'",
                                pieces[at] == pieces[other], wayOf[pieces[at]] == wayOf[pieces[other]]);
                    }
                }
            }
        }
    }

    static void promise11PieceAtByTheFirstCell() {
        // Eight cubes apart from one another: their far sides are PIECES of one WAY, by z, then y, then x.
        CastWorks x = formed("box 0 0 0 1 1 1;mirror x;mirror y;mirror z;", 3, 3, 3);
        due("draw", x.draw(), 9);
        due("its WAYS", x.way(0) * 10 + x.way(1), 2);
        int[][] inOrder = {{-1, 0, 0}, {1, 0, 0}, {-1, 2, 0}, {1, 2, 0}, {-1, 0, 2}, {1, 0, 2}, {-1, 2, 2}, {1, 2, 2}};
        for (int i = 0; i < 8; i++) {
            due("pieceAt", x.pieceAt(inOrder[i][0], inOrder[i][1], inOrder[i][2]), i + 1);
        }
    }

    static void promise11PieceAtOfCellsThatMeetOnlyAtAnEdge() {
        // Whatever WAY is first, the CELLS behind the two cubes meet at an edge alone.
        CastWorks x = formed("box 0 0 0 1 1 1;box 1 1 1 1 1 1;", 2, 2, 2);
        due("draw", x.draw(), 3);
        due("its WAYS", x.way(0) * 10 + x.way(1), 1);
        due("behind the first cube", x.pieceAt(-1, 0, 0), 1);
        due("behind the second cube", x.pieceAt(0, 1, 1), 2);
        due("one further, which hangs together by a side", x.pieceAt(-1, 1, 1), 2);
    }

    // ---- promise 12: piece

    static void promise12PieceFromTheFirstToTheLast() {
        CastWorks x = formed("box 0 0 0 1 1 1;mirror x;mirror y;mirror z;", 3, 3, 3);
        int count = x.draw();
        for (int what = 0; what <= 4; what++) {
            due("the first", x.piece(0, what) >= 0, true);
            due("the last", x.piece(count - 1, what) >= 0, true);
            due("ahead of the first", x.piece(-1, what), NONE);
            due("behind the last", x.piece(count, what), NONE);
            for (int far : FAR_OFF) {
                due("piece(" + far + ", " + what + ")", x.piece(far, what), NONE);
            }
        }
    }

    static void promise12PiecesHaveAllCellsOfTheMould() {
        for (String text : FORMS) {
            CastWorks x = formed(text, 5, 5, 5);
            int[] cells = new int[x.draw()];
            int[] touching = new int[cells.length];
            int[] pieces = allPieces(x);
            for (int at = 0; at < ALL; at++) {
                boolean touches = false;
                for (int[] step : STEPS) {
                    int other = besideOf(at, step);
                    touches |= other != NONE && pieces[other] == NONE;
                }
                if (pieces[at] != NONE) {
                    cells[pieces[at]]++;
                    touching[pieces[at]] += touches ? 1 : 0;
                }
            }
            for (int p = 0; p < cells.length; p++) {
                due("the CELLS of PIECE " + p + " of '" + text + "'", x.piece(p, 1), cells[p]);
                due("those with a solid one at a side", x.piece(p, 2), touching[p]);
                due("POURS that it bears", x.piece(p, 3), Math.max(1, 20 - touching[p]));
            }
        }
    }

    static void promise12PieceForOtherWhats() {
        CastWorks x = drawn(CUBE, 1, 1, 1);
        int[] want = {0, 25, 5, 15, 0};
        for (int what = 0; what <= 4; what++) {
            due("piece(0, " + what + ")", x.piece(0, what), want[what]);
        }
        due("piece(0, -1)", x.piece(0, -1), NONE);
        due("piece(0, 5)", x.piece(0, 5), NONE);
        for (int far : FAR_OFF) {
            due("piece(0, " + far + ")", x.piece(0, far), NONE);
        }
    }

    static void promise12PieceWithoutADrawing() {
        CastWorks x = formed(CUBE, 1, 1, 1);
        for (int what = 0; what <= 4; what++) {
            due("ahead of draw", x.piece(0, what), NONE);
        }
        x.draw();
        make(x, CUBE, 1, 1, 1);
        for (int what = 0; what <= 4; what++) {
            due("behind form", x.piece(0, what), NONE);
        }
    }

    static void promise12PieceCountsACellWithSeveralSolidSidesOnce() {
        CastWorks x = drawn(SHUT_IN + "hole 1 1 2 1 1 1;", 3, 3, 3);
        due("CELLS", x.piece(0, 1) + x.piece(1, 1), 125 - 25);
        due("those with a solid one at a side", x.piece(0, 2) + x.piece(1, 2), 6 * 9 - 1 + 2);
        due("none of the edges", drawn(CUBE, 1, 1, 1).piece(0, 2), 5);
    }

    static void promise12PiecesWayByWayAsTheyAreDrawn() {
        CastWorks x = drawn(SHUT_IN + "hole 1 2 1 1 1 1;", 3, 3, 3);
        due("its WAYS", x.way(0) * 10 + x.way(1), 20);
        due("the WAY of the first PIECE", x.piece(0, 0), 2);
        due("the WAY of the second PIECE", x.piece(1, 0), 0);
        due("the first CELL of all is of the first WAY", x.pieceAt(-1, -1, -1), 0);
        due("what that WAY leaves", x.piece(1, 1), 9);
    }

    static void promise12PieceTellsPoursThatItBearsAndThoseBehindItApart() {
        CastWorks x = drawn(CUBE, 1, 1, 1);
        int[] behind = {0, 7, 15};
        for (int i = 0; i < behind.length; i++) {
            due("pour", i == 0 ? 0 : x.pour(behind[i] - behind[i - 1]), i == 0 ? 0 : behind[i] - behind[i - 1]);
            due("POURS that PIECE 0 bears", x.piece(0, 3), 15);
            due("POURS that PIECE 1 bears", x.piece(1, 3), 19);
            due("POURS behind PIECE 0", x.piece(0, 4), behind[i]);
            due("POURS behind PIECE 1", x.piece(1, 4), behind[i]);
        }
        x.mend(0);
        due("POURS that a mended one bears", x.piece(0, 3), 15);
        due("POURS behind a mended one", x.piece(0, 4), 0);
        due("POURS behind the other one", x.piece(1, 4), 15);
    }

    static void promise12PieceBears1AtLeast() {
        CastWorks x = drawn(CUBE, 1, 1, 1);
        int[][] lifeAndBorne = {{1, 1}, {4, 1}, {5, 1}, {6, 1}, {7, 2}, {8, 3}, {1000, 995}};
        for (int[] pair : lifeAndBorne) {
            x.wear(pair[0], 1);
            due("LIFE " + pair[0] + " less 5", x.piece(0, 3), pair[1]);
        }
        make(x, "", 1, 1, 1);
        x.draw();
        x.wear(1, 1);
        due("LIFE 1 less 0", x.piece(0, 3), 1);
        x.wear(2, 1);
        due("LIFE 2 less 0", x.piece(0, 3), 2);
    }
}
