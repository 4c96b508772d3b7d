/** The edges of promises 13 to 16: pours. */
public final class PourEdges extends Checks {
    private PourEdges() {
    }

    public static void main(String[] args) {
        runTests(PourEdges.class, args, 13, 16);
    }

    // ---- promise 13: wear

    static void promise13WearOfLife1To1000() {
        CastWorks x = drawn("", 1, 1, 1);
        due("LIFE at first", x.piece(0, 3), 20);
        due("wear(1, 1)", x.wear(1, 1), true);
        due("LIFE 1", x.piece(0, 3), 1);
        due("wear(0, 1)", x.wear(0, 1), false);
        due("wear(-1, 1)", x.wear(-1, 1), false);
        due("LIFE has stayed", x.piece(0, 3), 1);
        due("wear(1000, 1)", x.wear(1000, 1), true);
        due("LIFE 1000", x.piece(0, 3), 1000);
        due("wear(1001, 1)", x.wear(1001, 1), false);
        for (int far : FARTHEST) {
            due("wear(" + far + ", 1)", x.wear(far, 1), false);
        }
        due("LIFE has stayed", x.piece(0, 3), 1000);
    }

    static void promise13WearOfPrice0To100() {
        CastWorks x = drawn("", 1, 1, 1);
        due("PRICE at first", x.mend(0), 27);
        due("wear(1, 0)", x.wear(1, 0), true);
        due("PRICE 0", x.mend(0), 0);
        due("wear(1, 100)", x.wear(1, 100), true);
        due("PRICE 100", x.mend(0), 2700);
        due("wear(1, -1)", x.wear(1, -1), false);
        due("wear(1, 101)", x.wear(1, 101), false);
        for (int far : FARTHEST) {
            due("wear(1, " + far + ")", x.wear(1, far), false);
        }
        due("PRICE has stayed", x.mend(0), 2700);
    }

    static void promise13WearRefusedLeavesBoth() {
        CastWorks x = drawn("", 1, 1, 1);
        int[][] cannotBe = {{0, 5}, {1001, 5}, {5, -1}, {5, 101}, {0, 101}, {LEAST, MOST}};
        for (int[] pair : cannotBe) {
            due("wear", x.wear(pair[0], pair[1]), false);
            due("LIFE has stayed", x.piece(0, 3), 20);
            due("PRICE has stayed", x.mend(0), 27);
        }
    }

    static void promise13WearWithoutAForm() {
        CastWorks x = new CastWorks();
        due("wear(7, 3)", x.wear(7, 3), true);
        make(x, "", 1, 1, 1);
        x.draw();
        due("LIFE", x.piece(0, 3), 7);
        due("PRICE", x.mend(0), 81);
        make(x, "x", 1, 1, 1);
        make(x, "", 1, 1, 1);
        x.draw();
        due("LIFE of another FORM", x.piece(0, 3), 7);
        due("PRICE of another FORM", x.mend(0), 81);
    }

    static void promise13WearLeavesPours() {
        CastWorks x = drawn("", 1, 1, 1);
        x.pour(20);
        x.wear(5, 1);
        due("POURS behind it", x.piece(0, 4), 20);
        due("POURS that it bears", x.piece(0, 3), 5);
        due("it bears no more", x.pour(1), 0);
        x.wear(21, 1);
        due("it bears one more", x.pour(2), 1);
    }

    // ---- promise 14: pour

    static void promise14PourOf1To1000() {
        CastWorks x = drawn("", 1, 1, 1);
        x.wear(1000, 1);
        due("pour(0)", x.pour(0), NONE);
        due("pour(-1)", x.pour(-1), NONE);
        due("pour(1001)", x.pour(1001), NONE);
        for (int far : FARTHEST) {
            due("pour(" + far + ")", x.pour(far), NONE);
        }
        due("nothing was poured", x.piece(0, 4), 0);
        due("pour(1)", x.pour(1), 1);
        due("poured", x.piece(0, 4), 1);
        x.mend(0);
        due("pour(1000)", x.pour(1000), 1000);
        due("poured", x.piece(0, 4), 1000);
        due("pour(1)", x.pour(1), 0);
        due("poured", x.piece(0, 4), 1000);
    }

    static void promise14PourAsLongAsEachPieceBearsIt() {
        for (int n = 14; n <= 16; n++) {
            CastWorks x = drawn(CUBE, 1, 1, 1);
            int made = Math.min(n, 15);
            due("pour(" + n + ")", x.pour(n), made);
            due("of the one that bears 15", x.piece(0, 4), made);
            due("of the one that bears 19", x.piece(1, 4), made);
        }
        CastWorks x = drawn(CUBE, 1, 1, 1);
        x.pour(1000);
        x.mend(0);
        due("the one that bears 19 has 15", x.pour(1000), 4);
        due("the other one", x.piece(0, 4), 4);
        due("no more", x.pour(1), 0);
    }

    /** A works whose DRAWING had 9 PIECES, with POURS behind them, ahead of the one of a cube. */
    private static CastWorks drawnBehindMorePieces() {
        CastWorks x = formed("box 0 0 0 1 1 1;mirror x;mirror y;mirror z;", 3, 3, 3);
        due("draw", x.draw(), 9);
        x.wear(1000, 1);
        due("pour", x.pour(15), 15);
        x.wear(20, 1);
        make(x, CUBE, 1, 1, 1);
        due("draw", x.draw(), 2);
        return x;
    }

    static void promise14PourWithPiecesThatWereMoreBefore() {
        CastWorks x = drawnBehindMorePieces();
        due("nothing was poured", x.piece(0, 4) + x.piece(1, 4), 0);
        due("pour(1000)", x.pour(1000), 15);
    }

    static void promise14PourWithoutADrawing() {
        CastWorks x = new CastWorks();
        due("without a FORM", x.pour(1), NONE);
        make(x, "", 1, 1, 1);
        due("ahead of draw", x.pour(1), NONE);
        x.draw();
        due("with one", x.pour(1), 1);
        make(x, "", 1, 1, 1);
        due("behind form", x.pour(1), NONE);
        x.draw();
        due("nothing was poured", x.piece(0, 4), 0);
        make(x, SHUT_IN, 3, 3, 3);
        x.draw();
        due("with none found", x.pour(1), NONE);
    }

    // ---- promise 15: mend

    static void promise15MendFromTheFirstToTheLast() {
        CastWorks x = drawn(CUBE, 1, 1, 1);
        x.pour(9);
        due("mend(-1)", x.mend(-1), NONE);
        due("mend(2)", x.mend(2), NONE);
        for (int far : FAR_OFF) {
            due("mend(" + far + ")", x.mend(far), NONE);
        }
        due("none was mended", x.piece(0, 4) * 100 + x.piece(1, 4), 909);
        due("mend(1)", x.mend(1), 1);
        due("the last one was mended", x.piece(0, 4) * 100 + x.piece(1, 4), 900);
        due("mend(0)", x.mend(0), 25);
        due("the first one was mended", x.piece(0, 4) * 100 + x.piece(1, 4), 0);
        due("mend(0) with none behind it", x.mend(0), 25);
    }

    static void promise15MendWithoutADrawing() {
        CastWorks x = formed(CUBE, 1, 1, 1);
        due("ahead of draw", x.mend(0), NONE);
        x.draw();
        make(x, CUBE, 1, 1, 1);
        due("behind form", x.mend(0), NONE);
    }

    static void promise15MendOfTheGreatestPiece() {
        CastWorks x = drawn("", 8, 8, 8);
        x.wear(1, 100);
        due("mend(0)", x.mend(0), 100000);
    }

    // ---- promise 16: run

    static void promise16RunOf1To1000() {
        CastWorks x = drawn("", 1, 1, 1);
        x.wear(1000, 1);
        due("run(0)", x.run(0), NONE);
        due("run(-1)", x.run(-1), NONE);
        due("run(1001)", x.run(1001), NONE);
        for (int far : FARTHEST) {
            due("run(" + far + ")", x.run(far), NONE);
        }
        due("nothing was poured", x.piece(0, 4), 0);
        due("run(1)", x.run(1), 0);
        due("poured", x.piece(0, 4), 1);
        x.mend(0);
        due("run(1000)", x.run(1000), 0);
        due("poured", x.piece(0, 4), 1000);
        due("run(1)", x.run(1), 27);
        due("poured", x.piece(0, 4), 1);
    }

    static void promise16RunMendsOnlyWhatWouldNotBear() {
        CastWorks x = drawn(CUBE, 1, 1, 1);
        due("run(15)", x.run(15), 0);
        due("POURS", x.piece(0, 4) * 100 + x.piece(1, 4), 1515);
        due("run(1)", x.run(1), 25);
        due("POURS", x.piece(0, 4) * 100 + x.piece(1, 4), 116);
        due("run(3)", x.run(3), 0);
        due("run(1)", x.run(1), 1);
        due("POURS", x.piece(0, 4) * 100 + x.piece(1, 4), 501);
        due("run(10)", x.run(10), 0);
        due("run(1)", x.run(1), 25);
        due("POURS", x.piece(0, 4) * 100 + x.piece(1, 4), 112);
        due("all at once", drawn(CUBE, 1, 1, 1).run(31), 25 + 25 + 1);
    }

    static void promise16RunBehindAShorterLife() {
        CastWorks x = drawn(CUBE, 1, 1, 1);
        x.run(15);
        x.wear(5, 2);
        due("run(1)", x.run(1), 52);
        due("POURS", x.piece(0, 4) * 100 + x.piece(1, 4), 101);
        due("run(1)", x.run(1), 50);
        due("POURS", x.piece(0, 4) * 100 + x.piece(1, 4), 102);
    }

    static void promise16RunOfTheGreatestCost() {
        CastWorks x = drawn("", 8, 8, 8);
        x.wear(1, 100);
        due("run(1000)", x.run(1000), 999 * 100000);
        due("run(1000)", x.run(1000), 1000 * 100000);
        x.wear(1, 0);
        due("run(1000) for nothing", x.run(1000), 0);
    }

    static void promise16RunWithPiecesThatWereMoreBefore() {
        CastWorks x = drawnBehindMorePieces();
        due("run(31)", x.run(31), 25 + 25 + 1);
        due("POURS", x.piece(0, 4) * 100 + x.piece(1, 4), 112);
    }

    static void promise16RunWithoutADrawing() {
        CastWorks x = new CastWorks();
        due("without a FORM", x.run(1), NONE);
        make(x, "", 1, 1, 1);
        due("ahead of draw", x.run(1), NONE);
        x.draw();
        due("with one", x.run(1), 0);
        make(x, "", 1, 1, 1);
        due("behind form", x.run(1), NONE);
        make(x, SHUT_IN, 3, 3, 3);
        x.draw();
        due("with none found", x.run(1), NONE);
    }
}
