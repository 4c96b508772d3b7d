/** Each promise of the document by hand-made runs with ordinary and wrong inputs; the edges have tests of their own. */
public final class PromiseTests extends Checks {
    private PromiseTests() {
    }

    public static void main(String[] args) {
        runTests(PromiseTests.class, args, 1, 27);
    }

    static void promise01NewObject() {
        CastWorks x = new CastWorks();
        due("solid", x.solid(0, 0, 0), NONE);
        due("solid", x.solid(-1, -1, -1), NONE);
        due("free", x.free(0, 0, 0), NONE);
        due("free", x.free(-1, -1, -1), NONE);
        due("shut", x.shut(), NONE);
        due("draw", x.draw(), NONE);
        due("way", x.way(0), NONE);
        due("pieceAt", x.pieceAt(-1, -1, -1), NONE);
        due("piece", x.piece(0, 0), NONE);
        due("mend", x.mend(0), NONE);
        due("row", x.row(), NONE);
        due("next", x.next(0), NONE);
        due("late", x.late(0), NONE);
        due("cancel", x.cancel(0), false);
        for (int c = 0; c < 12; c++) {
            due("mother", x.mother(c), NONE);
        }
        due("told(0)", x.told(0), 0);
        due("end(1)", x.end(1), false);
        due("NONE", CastWorks.NONE, -1);
    }

    static void promise02Feed() {
        CastWorks x = new CastWorks();
        for (int i = 1; i <= 20; i++) {
            due("feed " + i, x.feed(0, 0, 0, 0, 0), 20 * i);
        }
        due("feed beyond 400", x.feed(0, 0, 0, 0, 0), NONE);
        due("end(400)", x.end(400), true);
        due("end(381)", x.end(381), true);
        due("feed to 401", x.feed(0, 0, 0, 0, 0), NONE);
        due("end(380)", x.end(380), true);
        due("feed to 400", x.feed(0, 0, 0, 0, 0), 400);

        CastWorks y = new CastWorks();
        y.feed(four("box ", 0), four("0 0 ", 0), four("0 1 ", 0), four("2 1;", 0), four("x  \u00ff", 0));
        due("form of bytes in order", y.form(2, 2, 1), NONE);
        due("the place of the 17th byte", y.fault(1), 16);
        y.feed(four("box ", 0), four("0 0 ", 0), four("0 1 ", 0), four("2 1;", 0), four("   \u00ff", 0));
        due("form with the byte 255", y.form(2, 2, 1), NONE);
        due("the place of the 20th byte", y.fault(1), 19);
    }

    static void promise03End() {
        CastWorks x = new CastWorks();
        due("end(0)", x.end(0), true);
        due("end(-1)", x.end(-1), false);
        due("end(1)", x.end(1), false);
        x.feed(four("turn", 0), four("; bo", 0), 0, 0, 0);
        due("end(21)", x.end(21), false);
        due("end(-1)", x.end(-1), false);
        due("end(most)", x.end(MOST), false);
        due("end(least)", x.end(LEAST), false);
        due("end(20)", x.end(20), true);
        due("end(6)", x.end(6), true);
        due("end(7)", x.end(7), false);
        due("form of the first 6", x.form(2, 2, 2), 0);
        due("end(1) behind form", x.end(1), false);
    }

    static void promise04Form() {
        soundDue("", 1, 1, 1, 0);
        soundDue(" \n ", 1, 1, 1, 0);
        soundDue("box 0 0 0 9 9 9;", 8, 8, 8, 512);
        soundDue("box 1 2 3 2 3 4;", 8, 8, 8, 24);
        soundDue("box 9 9 9 9 9 9;", 8, 8, 8, 0);
        soundDue("box 2 1 1 5 5 5;", 3, 2, 2, 1);
        soundDue("\nbox\n0 0  0\n1 1 1\n;\n hole 0 0 0 1 1 1 ;turn;mirror x;mirror\nz ; ", 2, 2, 2, 0);
        soundDue("box 0 0 0 9 9 9;hole 1 1 1 1 1 1;", 3, 3, 3, 26);
        soundDue("box 0 0 0 9 9 9;hole 2 2 2 9 9 9;", 3, 3, 3, 26);

        CastWorks x = new CastWorks();
        lay(x, "box 0 0 0 1 2 1;");
        int[][] cannotBe = {{0, 1, 1}, {1, 0, 1}, {1, 1, 0}, {9, 1, 1}, {1, 9, 1}, {1, 1, 9}, {-1, 1, 1}, {LEAST, MOST, 1}};
        for (int[] box : cannotBe) {
            due("form of no box", x.form(box[0], box[1], box[2]), -2);
        }
        due("the tape has stayed", x.end(16), true);
        due("form", x.form(2, 3, 2), 2);
        due("the tape is gone", x.end(1), false);
        due("draw", x.draw() > 0, true);
        x.pour(3);
        int poured = x.piece(0, 4);
        due("form with a fault", make(x, "box 0 0 0 1 1 1; box", 1, 1, 1), NONE);
        due("the tape is gone with a fault", x.end(1), false);
        due("the form before stays", x.solid(0, 1, 0), 1);
        due("its box stays", x.solid(1, 2, 1), 0);
        due("its drawing stays", x.piece(0, 4), poured);
        due("form of no box", x.form(0, 0, 0), -2);
        due("its drawing stays", x.piece(0, 4), poured);
        due("a new form", make(x, "", 1, 1, 1), 0);
        due("the drawing is gone", x.piece(0, 0), NONE);
        due("the drawing is gone", x.way(0), NONE);
        due("the drawing is gone", x.pieceAt(-1, 0, 0), NONE);
        due("the drawing is gone", x.pour(1), NONE);
    }

    static void promise05Fault() {
        CastWorks x = new CastWorks();
        due("fault(0) of none", x.fault(0), 0);
        due("fault(1) of none", x.fault(1), NONE);
        due("fault(2)", x.fault(2), NONE);
        due("fault(-1)", x.fault(-1), NONE);
        make(x, "turn;;", 1, 1, 1);
        due("fault(0)", x.fault(0), 1);
        due("fault(1)", x.fault(1), 5);
        due("fault(2)", x.fault(2), NONE);
        lay(x, "turn;");
        due("form of no box", x.form(1, 1, 9), -2);
        due("fault(0) stays", x.fault(0), 1);
        due("fault(1) stays", x.fault(1), 5);
        due("form", x.form(1, 1, 1), 0);
        due("fault(0)", x.fault(0), 0);
        due("fault(1)", x.fault(1), NONE);

        faultDue("bo", 2, 2, 1, 0);
        faultDue(" boxes 0 0 0 1 1 1;", 2, 2, 1, 1);
        faultDue("boxa 0 0 0 1 1 1;", 2, 2, 1, 0);
        faultDue("boxz 0 0 0 1 1 1;", 2, 2, 1, 0);
        faultDue("x;", 2, 2, 1, 0);
        faultDue("0;", 2, 2, 1, 0);
        faultDue(";", 2, 2, 1, 0);
        faultDue("box", 2, 2, 1, 3);
        faultDue("box ", 2, 2, 1, 4);
        faultDue("box;", 2, 2, 1, 3);
        faultDue("box\t0 0 0 1 1 1;", 2, 2, 1, 3);
        faultDue("box0 0 0 1 1 1;", 2, 2, 1, 3);
        faultDue("box 00 0 1 1 1;", 2, 2, 1, 5);
        faultDue("box 0 0 0x 1 1;", 2, 2, 1, 9);
        faultDue("box 0 0 0 1 1 11;", 2, 2, 1, 15);
        faultDue("box 0 0 0 1 1 1", 2, 2, 1, 15);
        faultDue("box 0 0 0 1 1 1 \n", 2, 2, 1, 17);
        faultDue("box 0 0 0 1 1;", 2, 2, 1, 13);
        faultDue("box 0 0 0 1 1 1 1;", 2, 2, 1, 16);
        faultDue("box 0 0 0 1 1 1 turn;", 2, 2, 1, 16);
        faultDue("box 0 0 - 1 1 1;", 2, 2, 1, 8);
        faultDue("mirror", 2, 2, 1, 6);
        faultDue("mirror  ", 2, 2, 1, 8);
        faultDue("mirrorx;", 2, 2, 1, 0);
        faultDue("mirror;", 2, 2, 1, 6);
        faultDue("mirror 1;", 2, 2, 1, 7);
        faultDue("mirror xy;", 2, 2, 1, 7);
        faultDue("mirror a;", 2, 2, 1, 7);
        faultDue("mirror box;", 2, 2, 1, 7);
        faultDue("mirror x0;", 2, 2, 1, 8);
        faultDue("mirror x y;", 2, 2, 1, 9);
        faultDue("mirror z", 2, 2, 1, 8);
        faultDue("turn", 2, 2, 1, 4);
        faultDue("turn1;", 2, 2, 1, 4);
        faultDue("turns;", 2, 2, 1, 0);
        faultDue("turn;turn;bo", 2, 2, 1, 10);

        faultDue("box 0 0 0 0 1 1;", 2, 2, 2, 10);
        faultDue("box 0 0 0 1 0 1;", 2, 2, 2, 12);
        faultDue("hole 0 0 0 1 1 0;", 2, 2, 2, 15);
        faultDue("box 0 0 0 01 1 1;", 2, 2, 2, 10);
        faultDue("box 0 0 0 0", 2, 2, 2, 10);
        faultDue("box 0 0 0 0x", 2, 2, 2, 10);
        faultDue("box 0 0 0 1 1 0 and more", 2, 2, 2, 14);
        faultDue("turn;", 2, 3, 2, 0);
        faultDue(" turn", 3, 2, 2, 1);
        faultDue("turns;", 3, 2, 1, 0);
        faultDue("turn#", 3, 2, 2, 0);
        faultDue("bo; turn;", 3, 2, 1, 0);
    }

    static void promise06Solid() {
        CastWorks x = formed("box 1 0 0 1 2 1;", 3, 4, 2);
        due("solid", x.solid(1, 0, 0), 1);
        due("solid", x.solid(1, 1, 0), 1);
        due("solid", x.solid(1, 2, 0), 0);
        due("solid", x.solid(2, 0, 0), 0);
        due("solid", x.solid(0, 0, 0), 0);
        due("solid", x.solid(1, 0, 1), 0);
        due("the last cell", x.solid(2, 3, 1), 0);
        int[][] outside = {{3, 0, 0}, {0, 4, 0}, {0, 0, 2}, {-1, 0, 0}, {0, -1, 0}, {0, 0, -1}, {MOST, 0, 0}, {0, LEAST, MOST}};
        for (int[] cell : outside) {
            due("solid outside", x.solid(cell[0], cell[1], cell[2]), NONE);
        }

        CastWorks mirrored = formed("box 0 0 0 1 1 1; mirror x;", 3, 4, 2);
        due("mirror x", mirrored.solid(2, 0, 0), 1);
        due("mirror x leaves", mirrored.solid(0, 0, 0), 1);
        due("mirror x alone", mirrored.solid(0, 3, 0) + mirrored.solid(0, 0, 1) + mirrored.solid(1, 0, 0), 0);
        due("mirror y", formed("box 0 0 0 1 1 1; mirror y;", 3, 4, 2).solid(0, 3, 0), 1);
        due("mirror z", formed("box 0 0 0 1 1 1; mirror z;", 3, 4, 2).solid(0, 0, 1), 1);

        CastWorks turned = formed("box 0 0 0 2 1 1; box 2 1 1 1 1 1; turn;", 3, 3, 2);
        due("turn of 0 0", turned.solid(0, 2, 0), 1);
        due("turn of 1 0", turned.solid(0, 1, 0), 1);
        due("turn of 2 1", turned.solid(1, 0, 1), 1);
        due("turn leaves none", turned.solid(0, 0, 0) + turned.solid(1, 0, 0) + turned.solid(2, 1, 1), 0);
    }

    static void promise07Free() {
        CastWorks x = formed("box 0 0 0 1 1 1;", 1, 1, 1);
        due("solid", x.free(0, 0, 0), NONE);
        due("greater x", x.free(1, 0, 0), 63 - 2);
        due("lesser x", x.free(-1, 0, 0), 63 - 1);
        due("greater y", x.free(0, 1, 0), 63 - 8);
        due("lesser y", x.free(0, -1, 0), 63 - 4);
        due("greater z", x.free(0, 0, 1), 63 - 32);
        due("lesser z", x.free(0, 0, -1), 63 - 16);
        due("edge", x.free(1, 1, 1), 63);
        due("corner", x.free(-1, -1, -1), 63);
        int[][] outside = {{2, 0, 0}, {0, 2, 0}, {0, 0, 2}, {-2, 0, 0}, {0, -2, 0}, {0, 0, -2}, {MOST, MOST, MOST}, {LEAST, 0, 0}};
        for (int[] cell : outside) {
            due("free outside", x.free(cell[0], cell[1], cell[2]), NONE);
        }
        CastWorks shut = formed("box 0 0 0 3 3 3; hole 1 1 1 1 1 1;", 3, 3, 3);
        due("shut in", shut.free(1, 1, 1), 0);
        CastWorks tube = formed("box 0 0 0 8 8 8; hole 3 3 0 1 1 8;", 8, 8, 8);
        due("in a tube", tube.free(3, 3, 4), 16 + 32);
        due("at its end", tube.free(3, 3, 8), 63);
        due("beside its end", tube.free(4, 4, 8), 31);
    }

    static void promise08Shut() {
        due("shut", formed("", 2, 2, 2).shut(), 0);
        due("shut", formed("box 0 0 0 3 3 3; hole 1 1 1 1 1 1;", 3, 3, 3).shut(), 1);
        due("shut", formed("box 0 0 0 8 8 8; hole 1 1 1 6 6 6;", 8, 8, 8).shut(), 216);
        due("shut", formed("box 0 0 0 8 8 8; hole 1 1 1 6 6 6; hole 1 1 0 1 1 1;", 8, 8, 8).shut(), 210);
    }

    static void promise09Draw() {
        CastWorks empty = formed("", 8, 8, 8);
        due("draw of none solid", empty.draw(), 1);
        due("its way", empty.way(0), 0);
        due("its cells", empty.piece(0, 1), 1000);
        CastWorks block = formed("box 0 0 0 8 8 8;", 8, 8, 8);
        due("draw of a block", block.draw(), 2);
        due("shut in", formed("box 0 0 0 3 3 3; hole 1 1 1 1 1 1;", 3, 3, 3).draw(), -2);

        CastWorks x = formed("box 0 0 0 1 1 1;", 1, 1, 1);
        x.draw();
        due("pour", x.pour(4), 4);
        due("draw again", x.draw(), 2);
        due("nothing was poured then", x.piece(0, 4) + x.piece(1, 4), 0);

        // A pit on every side: each way is needed, and none of the six pits can hang together with another.
        CastWorks pits = formed("box 0 0 0 5 5 5; hole 2 2 0 1 1 1; hole 2 2 4 1 1 1; hole 2 0 2 1 1 1;"
                + "hole 2 4 2 1 1 1; hole 0 2 2 1 1 1; hole 4 2 2 1 1 1;", 5, 5, 5);
        due("six ways", pits.draw(), 6);
        due("the last way", pits.way(5), 5);
        due("no seventh", pits.way(6), NONE);

        // Ways along the comb would leave its gaps as pieces of their own.
        CastWorks comb = formed("box 0 0 0 5 1 2; hole 1 0 1 1 1 1; hole 3 0 1 1 1 1;", 5, 1, 2);
        due("a comb", comb.draw(), 2);
        due("a comb's first way", comb.way(0), 2);
        due("a comb's second way", comb.way(1), 0);
    }

    static void promise10Way() {
        CastWorks x = formed("box 0 0 0 3 3 3; hole 1 1 1 1 1 2;", 3, 3, 3);
        due("ahead of draw", x.way(0), NONE);
        due("draw", x.draw(), 2);
        due("way(0)", x.way(0), 4);
        due("way(1)", x.way(1), 0);
        due("way(2)", x.way(2), NONE);
        due("way(-1)", x.way(-1), NONE);
        due("way(most)", x.way(MOST), NONE);
        due("way(least)", x.way(LEAST), NONE);
        make(x, "box 0 0 0 3 3 3; hole 1 1 1 1 1 1;", 3, 3, 3);
        due("no drawing", x.draw(), -2);
        due("way without a drawing", x.way(0), NONE);
    }

    static void promise11PieceAt() {
        CastWorks x = formed("box 0 0 0 1 1 1;", 1, 1, 1);
        due("ahead of draw", x.pieceAt(1, 0, 0), NONE);
        x.draw();
        due("the far side", x.pieceAt(-1, 0, 0), 1);
        due("a corner", x.pieceAt(-1, -1, -1), 0);
        due("a side", x.pieceAt(1, 0, 0), 0);
        due("a solid one", x.pieceAt(0, 0, 0), NONE);
        due("outside", x.pieceAt(2, 0, 0), NONE);
        due("outside", x.pieceAt(0, -2, 0), NONE);
        due("outside", x.pieceAt(0, 0, MOST), NONE);

        // Pieces of one way go by their first cell: by z, then y, then x.
        CastWorks two = formed("box 0 0 0 1 3 3; hole 0 1 1 1 1 1;", 1, 3, 3);
        due("a ring's pieces", two.draw(), 2);
        CastWorks pins = formed("box 0 0 0 1 1 1; box 2 0 0 1 1 1; box 0 2 0 1 1 1; box 2 2 0 1 1 1; "
                + "box 0 0 1 3 3 1;", 3, 3, 2);
        due("four pins under a plate", pins.draw(), 2);
        due("under the plate", pins.pieceAt(1, 1, 0), 1);
    }

    static void promise12PiecesOfPits() {
        // Two pits on each side: the first way takes what lies between the pits of all ways but its opposite one.
        CastWorks x = formed("box 0 0 0 5 5 5;"
                + "hole 4 1 1 1 1 1;hole 4 3 3 1 1 1;hole 0 1 1 1 1 1;hole 0 3 3 1 1 1;"
                + "hole 1 4 3 1 1 1;hole 3 4 1 1 1 1;hole 1 0 3 1 1 1;hole 3 0 1 1 1 1;"
                + "hole 3 1 4 1 1 1;hole 1 3 4 1 1 1;hole 3 1 0 1 1 1;hole 1 3 0 1 1 1;", 5, 5, 5);
        due("pieces of pits", x.draw(), 10);
        for (int i = 0; i < 6; i++) {
            due("a way of pits", x.way(i), i);
        }
        int[][] inOrder = {{4, 1, 1}, {0, 3, 3}, {3, 4, 1}, {1, 4, 3}, {3, 0, 1}, {1, 0, 3},
            {3, 1, 4}, {1, 3, 4}, {3, 1, 0}, {1, 3, 0}};
        for (int p = 0; p < inOrder.length; p++) {
            due("the piece of a pit", x.pieceAt(inOrder[p][0], inOrder[p][1], inOrder[p][2]), p);
            due("its way", x.piece(p, 0), p < 2 ? p : p / 2 + 1);
            due("its cells", x.piece(p, 1) == 1, p >= 2);
        }
    }

    static void promise12Piece() {
        CastWorks x = formed("box 0 0 0 1 1 1;", 1, 1, 1);
        due("ahead of draw", x.piece(0, 1), NONE);
        x.draw();
        due("way", x.piece(0, 0), 0);
        due("cells", x.piece(0, 1), 25);
        due("touching", x.piece(0, 2), 5);
        due("borne", x.piece(0, 3), 15);
        due("poured", x.piece(0, 4), 0);
        due("way", x.piece(1, 0), 1);
        due("cells", x.piece(1, 1), 1);
        due("touching", x.piece(1, 2), 1);
        due("borne", x.piece(1, 3), 19);
        due("no such what", x.piece(0, 5), NONE);
        due("no such what", x.piece(0, -1), NONE);
        due("no such piece", x.piece(2, 0), NONE);
        due("no such piece", x.piece(-1, 0), NONE);
        due("no such piece", x.piece(MOST, 4), NONE);
        due("no such piece", x.piece(LEAST, 4), NONE);
        // A cell between two solid ones counts once: 3 + 3 around each end and the one between them.
        CastWorks gap = formed("box 0 0 0 1 1 1; box 2 0 0 1 1 1;", 3, 1, 1);
        int touching = 0;
        for (int p = 0; p < gap.draw(); p++) {
            touching += gap.piece(p, 2);
        }
        due("all touching", touching, 5 + 5 + 1);
    }

    static void promise13Wear() {
        CastWorks x = formed("box 0 0 0 1 1 1;", 1, 1, 1);
        x.draw();
        int[][] cannotBe = {{0, 1}, {1001, 1}, {-1, 1}, {1, -1}, {1, 101}, {LEAST, 0}, {1, MOST}};
        for (int[] pair : cannotBe) {
            due("wear", x.wear(pair[0], pair[1]), false);
        }
        due("LIFE has stayed", x.piece(1, 3), 19);
        due("PRICE has stayed", x.mend(0), 25);
        due("wear(1000, 100)", x.wear(1000, 100), true);
        due("LIFE of 1000", x.piece(1, 3), 999);
        due("PRICE of 100", x.mend(0), 2500);
        due("wear(1, 0)", x.wear(1, 0), true);
        due("1 at least", x.piece(0, 3), 1);
        due("PRICE of 0", x.mend(0), 0);
        due("wear(6, 2)", x.wear(6, 2), true);
        due("just 1", x.piece(0, 3), 1);
        make(x, "box 0 0 0 1 1 1;", 1, 1, 1);
        x.draw();
        due("LIFE goes over to other forms", x.piece(1, 3), 5);
        due("PRICE too", x.mend(1), 2);
    }

    static void promise14Pour() {
        CastWorks x = formed("box 0 0 0 1 1 1;", 1, 1, 1);
        due("without a drawing", x.pour(1), NONE);
        x.draw();
        due("pour(0)", x.pour(0), NONE);
        due("pour(1001)", x.pour(1001), NONE);
        due("pour(-1)", x.pour(-1), NONE);
        due("pour(1)", x.pour(1), 1);
        due("both pieces", x.piece(0, 4) * 100 + x.piece(1, 4), 101);
        due("pour(1000)", x.pour(1000), 14);
        due("both pieces", x.piece(0, 4) * 100 + x.piece(1, 4), 1515);
        due("no more", x.pour(1), 0);
        x.mend(0);
        due("the other one's end", x.pour(1000), 4);
        x.wear(10, 1);
        due("a shorter life", x.pour(1000), 0);
        due("nothing is taken back", x.piece(1, 4), 19);
        CastWorks empty = formed("", 1, 1, 1);
        empty.wear(1000, 1);
        empty.draw();
        due("pour(1000)", empty.pour(1000), 1000);
        due("pour(1000)", empty.pour(1000), 0);
    }

    static void promise15Mend() {
        CastWorks x = formed("box 0 0 0 1 1 1;", 1, 1, 1);
        due("without a drawing", x.mend(0), NONE);
        x.draw();
        x.wear(20, 3);
        x.pour(7);
        due("mend(0)", x.mend(0), 75);
        due("none behind it", x.piece(0, 4), 0);
        due("the other one", x.piece(1, 4), 7);
        due("mend(0) again", x.mend(0), 75);
        due("mend(1)", x.mend(1), 3);
        due("mend(2)", x.mend(2), NONE);
        due("mend(-1)", x.mend(-1), NONE);
        due("mend(least)", x.mend(LEAST), NONE);
    }

    static void promise16Run() {
        CastWorks x = formed("box 0 0 0 1 1 1;", 1, 1, 1);
        due("without a drawing", x.run(1), NONE);
        x.draw();
        due("run(0)", x.run(0), NONE);
        due("run(1001)", x.run(1001), NONE);
        due("run(-1)", x.run(-1), NONE);
        due("up to the end", x.run(15), 0);
        due("poured", x.piece(0, 4), 15);
        due("one more", x.run(1), 25);
        due("poured", x.piece(0, 4) * 100 + x.piece(1, 4), 116);
        // Piece 0 is mended after 14 more and each 15 then; piece 1 after 3 more and each 19 then.
        due("run(100)", x.run(100), 6 * 25 + 6 * 1);
        due("poured", x.piece(0, 4) * 100 + x.piece(1, 4), (86 - 75) * 100 + (97 - 95));
        x.wear(1, 100);
        due("each pour mends", x.run(1000), 1000 * 26 * 100);
        due("poured", x.piece(0, 4) * 100 + x.piece(1, 4), 101);
    }

    static void promise17Dry() {
        CastWorks x = new CastWorks();
        due("dry(0)", x.dry(0), 2);
        due("dry(100)", x.dry(100), 0);
        due("dry(101)", x.dry(101), NONE);
        due("dry(-1)", x.dry(-1), NONE);
        due("dry(5)", x.dry(5), 100);
        x.order(1, 0, 1);
        due("row with 5", x.row(), 6);
    }

    static void promise18Order() {
        CastWorks x = new CastWorks();
        int[][] cannotBe = {{0, 0, 1}, {51, 0, 1}, {-1, 0, 1}, {1, -1, 1}, {1, 1001, 1}, {1, 0, 0}, {1, 0, 101}, {MOST, LEAST, MOST}};
        for (int[] o : cannotBe) {
            due("order", x.order(o[0], o[1], o[2]), NONE);
        }
        due("none came", x.row(), NONE);
        due("the greatest", x.order(50, 1000, 100), 0);
        due("the least", x.order(1, 0, 1), 1);
        for (int o = 2; o < 10; o++) {
            due("order", x.order(1, 1000, 1), o);
        }
        due("an 11th", x.order(1, 1000, 1), NONE);
        x.cancel(7);
        x.cancel(3);
        due("the least that is free", x.order(1, 1000, 1), 3);
        due("the next one", x.order(1, 1000, 1), 7);
        due("an 11th", x.order(1, 1000, 1), NONE);
    }

    static void promise19Cancel() {
        CastWorks x = new CastWorks();
        x.order(1, 0, 1);
        x.order(2, 0, 1);
        due("cancel(-1)", x.cancel(-1), false);
        due("cancel(2)", x.cancel(2), false);
        due("cancel(10)", x.cancel(10), false);
        due("cancel(least)", x.cancel(LEAST), false);
        due("cancel(0)", x.cancel(0), true);
        due("cancel(0)", x.cancel(0), false);
        due("the other one's row", x.row(), 4);
        due("cancel(1)", x.cancel(1), true);
        due("row", x.row(), NONE);
    }

    static void promise20Row() {
        CastWorks x = new CastWorks();
        x.order(3, 5, 1);
        x.order(2, 4, 2);
        x.order(1, 3, 1);
        due("row", x.row(), 5);
        due("its first", x.next(0), 1);

        // All rows are in time, so the numbers stand in order.
        CastWorks calm = new CastWorks();
        for (int o = 0; o < 10; o++) {
            calm.order(50 - o, 1000, 1 + o);
        }
        due("row", calm.row(), 0);
        for (int i = 0; i < 10; i++) {
            due("next", calm.next(i), i);
        }

        // All rows are late: by weight for each day.
        CastWorks late = new CastWorks();
        late.dry(100);
        for (int o = 0; o < 10; o++) {
            late.order(50, 0, 100);
        }
        due("row", late.row(), 100 * (50 * 55 + 100 * 10));
        due("next", late.next(0), 0);
        late.cancel(0);
        late.order(49, 0, 100);
        late.row();
        due("the shortest first", late.next(0), 0);
        late.cancel(9);
        late.order(48, 0, 100);
        late.row();
        due("the shortest first", late.next(0), 9);
        due("then the next one", late.next(1), 0);
    }

    static void promise21Next() {
        CastWorks x = new CastWorks();
        x.order(2, 3, 1);
        x.order(1, 3, 5);
        due("ahead of row", x.next(0), NONE);
        x.row();
        due("next(0)", x.next(0), 1);
        due("next(1)", x.next(1), 0);
        due("next(2)", x.next(2), NONE);
        due("next(-1)", x.next(-1), NONE);
        due("next(most)", x.next(MOST), NONE);
        x.order(1, 0, 100);
        due("the latest row stays", x.next(0), 1);
        due("the latest row stays", x.next(2), NONE);
        x.cancel(0);
        x.cancel(1);
        x.cancel(2);
        due("the latest row stays", x.next(1), 0);
        due("no row is found", x.row(), NONE);
        due("the latest row that was found stays", x.next(1), 0);
    }

    static void promise22Late() {
        CastWorks x = new CastWorks();
        x.order(2, 3, 1);
        x.order(1, 3, 5);
        due("ahead of row", x.late(0), NONE);
        x.row();
        due("late(0)", x.late(0), 0);
        due("late(1)", x.late(1), 2);
        due("late(2)", x.late(2), NONE);
        due("late(-1)", x.late(-1), NONE);
        due("late(least)", x.late(LEAST), NONE);
        x.dry(100);
        x.cancel(0);
        x.order(50, 0, 1);
        due("as it was then", x.late(1), 2);
    }

    static void promise23Cast() {
        CastWorks x = new CastWorks();
        int[][] cannotBe = {{-1, 1, 1}, {12, 1, 1}, {0, -1, 1}, {0, 100001, 1}, {0, 1, -1}, {0, 1, 1001},
            {12, 0, 0}, {-1, 0, 0}, {MOST, MOST, MOST}, {LEAST, LEAST, LEAST}};
        for (int[] c : cannotBe) {
            due("cast", x.cast(c[0], c[1], c[2]), false);
        }
        due("none was found", x.told(0), 0);
        due("the greatest", x.cast(11, 100000, 1000), true);
        due("the least", x.cast(0, 1, 0), true);
        due("two were found", x.told(0), 2);
        due("a false one changes nothing", x.cast(11, 1, 1001), false);
        due("found anew", x.cast(0, 99000, 950), true);
        due("mother", x.mother(0), 11);
        due("gone, its detail is not looked at", x.cast(11, 0, -5), true);
        due("gone", x.mother(11), NONE);
        due("no mother any more", x.mother(0), -2);
        due("gone again", x.cast(11, 0, 5000), true);
    }

    static void promise24Copies() {
        CastWorks x = new CastWorks();
        x.cast(0, 10000, 1000);
        x.cast(1, 9000, 0);
        x.cast(2, 9900, 950);
        int[][] cannotBe = {{899, 0, 0}, {1001, 0, 0}, {900, -1, 0}, {900, 1001, 0}, {900, 0, -1}, {900, 0, 100001}, {LEAST, MOST, MOST}};
        for (int[] c : cannotBe) {
            due("copies", x.copies(c[0], c[1], c[2]), false);
        }
        due("nothing has changed", x.mother(2), 0);
        due("nothing has changed", x.mother(1), -2);
        due("copies(900, 0, 0)", x.copies(900, 0, 0), true);
        due("mother(1)", x.mother(1), 0);
        due("mother(2)", x.mother(2), -2);
        due("copies(1000, 1000, 100000)", x.copies(1000, 1000, 100000), true);
        due("mother(2)", x.mother(2), 0);
        due("mother(1)", x.mother(1), 2);
        due("told(1)", x.told(1), 100 + 50 + 900 + 950);
    }

    static void promise25Mother() {
        CastWorks x = new CastWorks();
        x.cast(5, 999, 999);
        x.cast(3, 989, 949);
        due("floors: 989.01, 949.05", x.mother(3), 5);
        x.cast(3, 989, 899);
        due("50 is not above BOUND at first", x.mother(3), 5);
        x.cast(3, 988, 899);
        due("51 is above BOUND at first", x.mother(3), -2);
        x.cast(3, 989, 949);
        x.copies(990, 950, 0);
        due("a quarrel of 0 within 0", x.mother(3), 5);
        x.cast(3, 990, 949);
        due("a quarrel of 1 above 0", x.mother(3), -2);
        x.copies(990, 950, 1);
        due("a quarrel of 1 within 1", x.mother(3), 5);
        x.cast(2, 999, 999);
        due("the least number", x.mother(3), 2);
        due("alike are no mothers", x.mother(2), -2);
        due("alike are no mothers", x.mother(5), -2);
        x.copies(1000, 1000, 100);
        x.cast(2, 999, 1000);
        due("as great, with more detail", x.mother(5), 2);
        due("not the other way round", x.mother(2), -2);
        due("mother(-1)", x.mother(-1), NONE);
        due("mother(12)", x.mother(12), NONE);
        due("mother(0)", x.mother(0), NONE);
        due("mother(least)", x.mother(LEAST), NONE);
        CastWorks less = new CastWorks();
        less.copies(1000, 1000, 100000);
        less.cast(0, 500, 1000);
        less.cast(1, 501, 0);
        due("a greater size with less detail", less.mother(0), 1);
        due("a lesser size with more detail", less.mother(1), -2);
    }

    static void promise26Steps() {
        CastWorks x = new CastWorks();
        x.copies(1000, 1000, 1);
        for (int c = 0; c < 12; c++) {
            x.cast(c, 1 + c, 0);
        }
        for (int c = 0; c < 12; c++) {
            due("steps", x.steps(c), 11 - c);
        }
        due("steps(12)", x.steps(12), NONE);
        due("steps(-1)", x.steps(-1), NONE);
        x.cast(6, 0, 0);
        due("steps of none", x.steps(6), NONE);
        due("a gap ends it", x.steps(0), 5);
    }

    static void promise27Told() {
        CastWorks x = new CastWorks();
        due("told(0)", x.told(0), 0);
        due("told(1)", x.told(1), 0);
        due("told(2)", x.told(2), NONE);
        due("told(-1)", x.told(-1), NONE);
        x.cast(0, 1000, 900);
        x.cast(1, 980, 860);
        x.cast(2, 500, 500);
        due("told(0)", x.told(0), 2);
        due("told(1)", x.told(1), 10 + 5);
        x.copies(990, 950, 100000);
        due("told(0)", x.told(0), 1);
        due("told(1)", x.told(1), 15 + (970 - 500) + (817 - 500));
    }
}
