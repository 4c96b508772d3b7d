/** Each promise of the document by hand-made runs with ordinary and wrong inputs; the edges have tests of their own. */
public final class PromiseTests extends Checks {
    private PromiseTests() {
    }

    private static void due(int promise, String call, long got, long want) {
        begin("promise " + promise);
        due(call, got, want);
    }

    private static void due(int promise, String call, boolean got, boolean want) {
        begin("promise " + promise);
        due(call, got, want);
    }

    private static void faultDue(int promise, String text, int wide, int high, int kind, int place) {
        begin("promise " + promise);
        faultDue(text, wide, high, kind, place);
    }

    private static void soundDue(int promise, String text, int wide, int high, int deep, int solid) {
        begin("promise " + promise);
        soundDue(text, wide, high, deep, solid);
    }

    private static void newObject() {
        CastWorks x = new CastWorks();
        due(1, "solid", x.solid(0, 0, 0), NONE);
        due(1, "solid", x.solid(-1, -1, -1), NONE);
        due(1, "free", x.free(0, 0, 0), NONE);
        due(1, "free", x.free(-1, -1, -1), NONE);
        due(1, "shut", x.shut(), NONE);
        due(1, "draw", x.draw(), NONE);
        due(1, "way", x.way(0), NONE);
        due(1, "pieceAt", x.pieceAt(-1, -1, -1), NONE);
        due(1, "piece", x.piece(0, 0), NONE);
        due(1, "mend", x.mend(0), NONE);
        due(1, "row", x.row(), NONE);
        due(1, "next", x.next(0), NONE);
        due(1, "late", x.late(0), NONE);
        due(1, "cancel", x.cancel(0), false);
        for (int c = 0; c < 12; c++) {
            due(1, "mother", x.mother(c), NONE);
        }
        due(1, "told(0)", x.told(0), 0);
        due(1, "end(1)", x.end(1), false);
        due(1, "NONE", CastWorks.NONE, -1);
    }

    private static void feed() {
        CastWorks x = new CastWorks();
        for (int i = 1; i <= 20; i++) {
            due(2, "feed " + i, x.feed(0, 0, 0, 0, 0), 20 * i);
        }
        due(2, "feed beyond 400", x.feed(0, 0, 0, 0, 0), NONE);
        due(2, "end(400)", x.end(400), true);
        due(2, "end(381)", x.end(381), true);
        due(2, "feed to 401", x.feed(0, 0, 0, 0, 0), NONE);
        due(2, "end(380)", x.end(380), true);
        due(2, "feed to 400", x.feed(0, 0, 0, 0, 0), 400);

        CastWorks y = new CastWorks();
        y.feed(four("box ", 0), four("0 0 ", 0), four("0 1 ", 0), four("2 1;", 0), four("x  \u00ff", 0));
        due(2, "form of bytes in order", y.form(2, 2, 1), NONE);
        due(2, "the place of the 17th byte", y.fault(1), 16);
        y.feed(four("box ", 0), four("0 0 ", 0), four("0 1 ", 0), four("2 1;", 0), four("   \u00ff", 0));
        due(2, "form with the byte 255", y.form(2, 2, 1), NONE);
        due(2, "the place of the 20th byte", y.fault(1), 19);
    }

    private static void end() {
        CastWorks x = new CastWorks();
        due(3, "end(0)", x.end(0), true);
        due(3, "end(-1)", x.end(-1), false);
        due(3, "end(1)", x.end(1), false);
        x.feed(four("turn", 0), four("; bo", 0), 0, 0, 0);
        due(3, "end(21)", x.end(21), false);
        due(3, "end(-1)", x.end(-1), false);
        due(3, "end(most)", x.end(MOST), false);
        due(3, "end(least)", x.end(LEAST), false);
        due(3, "end(20)", x.end(20), true);
        due(3, "end(6)", x.end(6), true);
        due(3, "end(7)", x.end(7), false);
        due(3, "form of the first 6", x.form(2, 2, 2), 0);
        due(3, "end(1) behind form", x.end(1), false);
    }

    private static void form() {
        soundDue(4, "", 1, 1, 1, 0);
        soundDue(4, " \n ", 1, 1, 1, 0);
        soundDue(4, "box 0 0 0 9 9 9;", 8, 8, 8, 512);
        soundDue(4, "box 1 2 3 2 3 4;", 8, 8, 8, 24);
        soundDue(4, "box 9 9 9 9 9 9;", 8, 8, 8, 0);
        soundDue(4, "box 2 1 1 5 5 5;", 3, 2, 2, 1);
        soundDue(4, "\nbox\n0 0  0\n1 1 1\n;\n hole 0 0 0 1 1 1 ;turn;mirror x;mirror\nz ; ", 2, 2, 2, 0);
        soundDue(4, "box 0 0 0 9 9 9;hole 1 1 1 1 1 1;", 3, 3, 3, 26);
        soundDue(4, "box 0 0 0 9 9 9;hole 2 2 2 9 9 9;", 3, 3, 3, 26);

        CastWorks x = new CastWorks();
        lay(x, "box 0 0 0 1 2 1;");
        int[][] cannotBe = {{0, 1, 1}, {1, 0, 1}, {1, 1, 0}, {9, 1, 1}, {1, 9, 1}, {1, 1, 9}, {-1, 1, 1}, {LEAST, MOST, 1}};
        for (int[] box : cannotBe) {
            due(4, "form of no box", x.form(box[0], box[1], box[2]), -2);
        }
        due(4, "the tape has stayed", x.end(16), true);
        due(4, "form", x.form(2, 3, 2), 2);
        due(4, "the tape is gone", x.end(1), false);
        due(4, "draw", x.draw() > 0, true);
        x.pour(3);
        int poured = x.piece(0, 4);
        due(4, "form with a fault", make(x, "box 0 0 0 1 1 1; box", 1, 1, 1), NONE);
        due(4, "the tape is gone with a fault", x.end(1), false);
        due(4, "the form before stays", x.solid(0, 1, 0), 1);
        due(4, "its box stays", x.solid(1, 2, 1), 0);
        due(4, "its drawing stays", x.piece(0, 4), poured);
        due(4, "form of no box", x.form(0, 0, 0), -2);
        due(4, "its drawing stays", x.piece(0, 4), poured);
        due(4, "a new form", make(x, "", 1, 1, 1), 0);
        due(4, "the drawing is gone", x.piece(0, 0), NONE);
        due(4, "the drawing is gone", x.way(0), NONE);
        due(4, "the drawing is gone", x.pieceAt(-1, 0, 0), NONE);
        due(4, "the drawing is gone", x.pour(1), NONE);
    }

    private static void fault() {
        CastWorks x = new CastWorks();
        due(5, "fault(0) of none", x.fault(0), 0);
        due(5, "fault(1) of none", x.fault(1), NONE);
        due(5, "fault(2)", x.fault(2), NONE);
        due(5, "fault(-1)", x.fault(-1), NONE);
        make(x, "turn;;", 1, 1, 1);
        due(5, "fault(0)", x.fault(0), 1);
        due(5, "fault(1)", x.fault(1), 5);
        due(5, "fault(2)", x.fault(2), NONE);
        lay(x, "turn;");
        due(5, "form of no box", x.form(1, 1, 9), -2);
        due(5, "fault(0) stays", x.fault(0), 1);
        due(5, "fault(1) stays", x.fault(1), 5);
        due(5, "form", x.form(1, 1, 1), 0);
        due(5, "fault(0)", x.fault(0), 0);
        due(5, "fault(1)", x.fault(1), NONE);

        faultDue(5, "bo", 2, 2, 1, 0);
        faultDue(5, " boxes 0 0 0 1 1 1;", 2, 2, 1, 1);
        faultDue(5, "boxa 0 0 0 1 1 1;", 2, 2, 1, 0);
        faultDue(5, "boxz 0 0 0 1 1 1;", 2, 2, 1, 0);
        faultDue(5, "x;", 2, 2, 1, 0);
        faultDue(5, "0;", 2, 2, 1, 0);
        faultDue(5, ";", 2, 2, 1, 0);
        faultDue(5, "box", 2, 2, 1, 3);
        faultDue(5, "box ", 2, 2, 1, 4);
        faultDue(5, "box;", 2, 2, 1, 3);
        faultDue(5, "box\t0 0 0 1 1 1;", 2, 2, 1, 3);
        faultDue(5, "box0 0 0 1 1 1;", 2, 2, 1, 3);
        faultDue(5, "box 00 0 1 1 1;", 2, 2, 1, 5);
        faultDue(5, "box 0 0 0x 1 1;", 2, 2, 1, 9);
        faultDue(5, "box 0 0 0 1 1 11;", 2, 2, 1, 15);
        faultDue(5, "box 0 0 0 1 1 1", 2, 2, 1, 15);
        faultDue(5, "box 0 0 0 1 1 1 \n", 2, 2, 1, 17);
        faultDue(5, "box 0 0 0 1 1;", 2, 2, 1, 13);
        faultDue(5, "box 0 0 0 1 1 1 1;", 2, 2, 1, 16);
        faultDue(5, "box 0 0 0 1 1 1 turn;", 2, 2, 1, 16);
        faultDue(5, "box 0 0 - 1 1 1;", 2, 2, 1, 8);
        faultDue(5, "mirror", 2, 2, 1, 6);
        faultDue(5, "mirror  ", 2, 2, 1, 8);
        faultDue(5, "mirrorx;", 2, 2, 1, 0);
        faultDue(5, "mirror;", 2, 2, 1, 6);
        faultDue(5, "mirror 1;", 2, 2, 1, 7);
        faultDue(5, "mirror xy;", 2, 2, 1, 7);
        faultDue(5, "mirror a;", 2, 2, 1, 7);
        faultDue(5, "mirror box;", 2, 2, 1, 7);
        faultDue(5, "mirror x0;", 2, 2, 1, 8);
        faultDue(5, "mirror x y;", 2, 2, 1, 9);
        faultDue(5, "mirror z", 2, 2, 1, 8);
        faultDue(5, "turn", 2, 2, 1, 4);
        faultDue(5, "turn1;", 2, 2, 1, 4);
        faultDue(5, "turns;", 2, 2, 1, 0);
        faultDue(5, "turn;turn;bo", 2, 2, 1, 10);

        faultDue(5, "box 0 0 0 0 1 1;", 2, 2, 2, 10);
        faultDue(5, "box 0 0 0 1 0 1;", 2, 2, 2, 12);
        faultDue(5, "hole 0 0 0 1 1 0;", 2, 2, 2, 15);
        faultDue(5, "box 0 0 0 01 1 1;", 2, 2, 2, 10);
        faultDue(5, "box 0 0 0 0", 2, 2, 2, 10);
        faultDue(5, "box 0 0 0 0x", 2, 2, 2, 10);
        faultDue(5, "box 0 0 0 1 1 0 and more", 2, 2, 2, 14);
        faultDue(5, "turn;", 2, 3, 2, 0);
        faultDue(5, " turn", 3, 2, 2, 1);
        faultDue(5, "turns;", 3, 2, 1, 0);
        faultDue(5, "turn#", 3, 2, 2, 0);
        faultDue(5, "bo; turn;", 3, 2, 1, 0);
    }

    private static void solid() {
        CastWorks x = formed("box 1 0 0 1 2 1;", 3, 4, 2);
        due(6, "solid", x.solid(1, 0, 0), 1);
        due(6, "solid", x.solid(1, 1, 0), 1);
        due(6, "solid", x.solid(1, 2, 0), 0);
        due(6, "solid", x.solid(2, 0, 0), 0);
        due(6, "solid", x.solid(0, 0, 0), 0);
        due(6, "solid", x.solid(1, 0, 1), 0);
        due(6, "the last cell", x.solid(2, 3, 1), 0);
        int[][] outside = {{3, 0, 0}, {0, 4, 0}, {0, 0, 2}, {-1, 0, 0}, {0, -1, 0}, {0, 0, -1}, {MOST, 0, 0}, {0, LEAST, MOST}};
        for (int[] cell : outside) {
            due(6, "solid outside", x.solid(cell[0], cell[1], cell[2]), NONE);
        }

        CastWorks mirrored = formed("box 0 0 0 1 1 1; mirror x;", 3, 4, 2);
        due(6, "mirror x", mirrored.solid(2, 0, 0), 1);
        due(6, "mirror x leaves", mirrored.solid(0, 0, 0), 1);
        due(6, "mirror x alone", mirrored.solid(0, 3, 0) + mirrored.solid(0, 0, 1) + mirrored.solid(1, 0, 0), 0);
        due(6, "mirror y", formed("box 0 0 0 1 1 1; mirror y;", 3, 4, 2).solid(0, 3, 0), 1);
        due(6, "mirror z", formed("box 0 0 0 1 1 1; mirror z;", 3, 4, 2).solid(0, 0, 1), 1);

        CastWorks turned = formed("box 0 0 0 2 1 1; box 2 1 1 1 1 1; turn;", 3, 3, 2);
        due(6, "turn of 0 0", turned.solid(0, 2, 0), 1);
        due(6, "turn of 1 0", turned.solid(0, 1, 0), 1);
        due(6, "turn of 2 1", turned.solid(1, 0, 1), 1);
        due(6, "turn leaves none", turned.solid(0, 0, 0) + turned.solid(1, 0, 0) + turned.solid(2, 1, 1), 0);
    }

    private static void free() {
        CastWorks x = formed("box 0 0 0 1 1 1;", 1, 1, 1);
        due(7, "solid", x.free(0, 0, 0), NONE);
        due(7, "greater x", x.free(1, 0, 0), 63 - 2);
        due(7, "lesser x", x.free(-1, 0, 0), 63 - 1);
        due(7, "greater y", x.free(0, 1, 0), 63 - 8);
        due(7, "lesser y", x.free(0, -1, 0), 63 - 4);
        due(7, "greater z", x.free(0, 0, 1), 63 - 32);
        due(7, "lesser z", x.free(0, 0, -1), 63 - 16);
        due(7, "edge", x.free(1, 1, 1), 63);
        due(7, "corner", x.free(-1, -1, -1), 63);
        int[][] outside = {{2, 0, 0}, {0, 2, 0}, {0, 0, 2}, {-2, 0, 0}, {0, -2, 0}, {0, 0, -2}, {MOST, MOST, MOST}, {LEAST, 0, 0}};
        for (int[] cell : outside) {
            due(7, "free outside", x.free(cell[0], cell[1], cell[2]), NONE);
        }
        CastWorks shut = formed("box 0 0 0 3 3 3; hole 1 1 1 1 1 1;", 3, 3, 3);
        due(7, "shut in", shut.free(1, 1, 1), 0);
        CastWorks tube = formed("box 0 0 0 8 8 8; hole 3 3 0 1 1 8;", 8, 8, 8);
        due(7, "in a tube", tube.free(3, 3, 4), 16 + 32);
        due(7, "at its end", tube.free(3, 3, 8), 63);
        due(7, "beside its end", tube.free(4, 4, 8), 31);
    }

    private static void shut() {
        due(8, "shut", formed("", 2, 2, 2).shut(), 0);
        due(8, "shut", formed("box 0 0 0 3 3 3; hole 1 1 1 1 1 1;", 3, 3, 3).shut(), 1);
        due(8, "shut", formed("box 0 0 0 8 8 8; hole 1 1 1 6 6 6;", 8, 8, 8).shut(), 216);
        due(8, "shut", formed("box 0 0 0 8 8 8; hole 1 1 1 6 6 6; hole 1 1 0 1 1 1;", 8, 8, 8).shut(), 210);
    }

    private static void draw() {
        CastWorks empty = formed("", 8, 8, 8);
        due(9, "draw of none solid", empty.draw(), 1);
        due(9, "its way", empty.way(0), 0);
        due(9, "its cells", empty.piece(0, 1), 1000);
        CastWorks block = formed("box 0 0 0 8 8 8;", 8, 8, 8);
        due(9, "draw of a block", block.draw(), 2);
        due(9, "shut in", formed("box 0 0 0 3 3 3; hole 1 1 1 1 1 1;", 3, 3, 3).draw(), -2);

        CastWorks x = formed("box 0 0 0 1 1 1;", 1, 1, 1);
        x.draw();
        due(9, "pour", x.pour(4), 4);
        due(9, "draw again", x.draw(), 2);
        due(9, "nothing was poured then", x.piece(0, 4) + x.piece(1, 4), 0);

        // A pit on every side: each way is needed, and none of the six pits can hang together with another.
        CastWorks pits = formed("box 0 0 0 5 5 5; hole 2 2 0 1 1 1; hole 2 2 4 1 1 1; hole 2 0 2 1 1 1;"
                + "hole 2 4 2 1 1 1; hole 0 2 2 1 1 1; hole 4 2 2 1 1 1;", 5, 5, 5);
        due(9, "six ways", pits.draw(), 6);
        due(9, "the last way", pits.way(5), 5);
        due(9, "no seventh", pits.way(6), NONE);

        // Ways along the comb would leave its gaps as pieces of their own.
        CastWorks comb = formed("box 0 0 0 5 1 2; hole 1 0 1 1 1 1; hole 3 0 1 1 1 1;", 5, 1, 2);
        due(9, "a comb", comb.draw(), 2);
        due(9, "a comb's first way", comb.way(0), 2);
        due(9, "a comb's second way", comb.way(1), 0);
    }

    private static void way() {
        CastWorks x = formed("box 0 0 0 3 3 3; hole 1 1 1 1 1 2;", 3, 3, 3);
        due(10, "ahead of draw", x.way(0), NONE);
        due(10, "draw", x.draw(), 2);
        due(10, "way(0)", x.way(0), 4);
        due(10, "way(1)", x.way(1), 0);
        due(10, "way(2)", x.way(2), NONE);
        due(10, "way(-1)", x.way(-1), NONE);
        due(10, "way(most)", x.way(MOST), NONE);
        due(10, "way(least)", x.way(LEAST), NONE);
        make(x, "box 0 0 0 3 3 3; hole 1 1 1 1 1 1;", 3, 3, 3);
        due(10, "no drawing", x.draw(), -2);
        due(10, "way without a drawing", x.way(0), NONE);
    }

    private static void pieceAt() {
        CastWorks x = formed("box 0 0 0 1 1 1;", 1, 1, 1);
        due(11, "ahead of draw", x.pieceAt(1, 0, 0), NONE);
        x.draw();
        due(11, "the far side", x.pieceAt(-1, 0, 0), 1);
        due(11, "a corner", x.pieceAt(-1, -1, -1), 0);
        due(11, "a side", x.pieceAt(1, 0, 0), 0);
        due(11, "a solid one", x.pieceAt(0, 0, 0), NONE);
        due(11, "outside", x.pieceAt(2, 0, 0), NONE);
        due(11, "outside", x.pieceAt(0, -2, 0), NONE);
        due(11, "outside", x.pieceAt(0, 0, MOST), NONE);

        // Pieces of one way go by their first cell: by z, then y, then x.
        CastWorks two = formed("box 0 0 0 1 3 3; hole 0 1 1 1 1 1;", 1, 3, 3);
        due(11, "a ring's pieces", two.draw(), 2);
        CastWorks pins = formed("box 0 0 0 1 1 1; box 2 0 0 1 1 1; box 0 2 0 1 1 1; box 2 2 0 1 1 1; "
                + "box 0 0 1 3 3 1;", 3, 3, 2);
        due(11, "four pins under a plate", pins.draw(), 2);
        due(11, "under the plate", pins.pieceAt(1, 1, 0), 1);
    }

    private static void numbering() {
        // Two pits on each side: the first way takes what lies between the pits of all ways but its opposite one.
        CastWorks x = formed("box 0 0 0 5 5 5;"
                + "hole 4 1 1 1 1 1;hole 4 3 3 1 1 1;hole 0 1 1 1 1 1;hole 0 3 3 1 1 1;"
                + "hole 1 4 3 1 1 1;hole 3 4 1 1 1 1;hole 1 0 3 1 1 1;hole 3 0 1 1 1 1;"
                + "hole 3 1 4 1 1 1;hole 1 3 4 1 1 1;hole 3 1 0 1 1 1;hole 1 3 0 1 1 1;", 5, 5, 5);
        due(11, "pieces of pits", x.draw(), 10);
        for (int i = 0; i < 6; i++) {
            due(11, "a way of pits", x.way(i), i);
        }
        int[][] inOrder = {{4, 1, 1}, {0, 3, 3}, {3, 4, 1}, {1, 4, 3}, {3, 0, 1}, {1, 0, 3},
            {3, 1, 4}, {1, 3, 4}, {3, 1, 0}, {1, 3, 0}};
        for (int p = 0; p < inOrder.length; p++) {
            due(11, "the piece of a pit", x.pieceAt(inOrder[p][0], inOrder[p][1], inOrder[p][2]), p);
            due(12, "its way", x.piece(p, 0), p < 2 ? p : p / 2 + 1);
            due(12, "its cells", x.piece(p, 1) == 1, p >= 2);
        }
    }

    private static void piece() {
        CastWorks x = formed("box 0 0 0 1 1 1;", 1, 1, 1);
        due(12, "ahead of draw", x.piece(0, 1), NONE);
        x.draw();
        due(12, "way", x.piece(0, 0), 0);
        due(12, "cells", x.piece(0, 1), 25);
        due(12, "touching", x.piece(0, 2), 5);
        due(12, "borne", x.piece(0, 3), 15);
        due(12, "poured", x.piece(0, 4), 0);
        due(12, "way", x.piece(1, 0), 1);
        due(12, "cells", x.piece(1, 1), 1);
        due(12, "touching", x.piece(1, 2), 1);
        due(12, "borne", x.piece(1, 3), 19);
        due(12, "no such what", x.piece(0, 5), NONE);
        due(12, "no such what", x.piece(0, -1), NONE);
        due(12, "no such piece", x.piece(2, 0), NONE);
        due(12, "no such piece", x.piece(-1, 0), NONE);
        due(12, "no such piece", x.piece(MOST, 4), NONE);
        due(12, "no such piece", x.piece(LEAST, 4), NONE);
        // A cell between two solid ones counts once: 3 + 3 around each end and the one between them.
        CastWorks gap = formed("box 0 0 0 1 1 1; box 2 0 0 1 1 1;", 3, 1, 1);
        int touching = 0;
        for (int p = 0; p < gap.draw(); p++) {
            touching += gap.piece(p, 2);
        }
        due(12, "all touching", touching, 5 + 5 + 1);
    }

    private static void wear() {
        CastWorks x = formed("box 0 0 0 1 1 1;", 1, 1, 1);
        x.draw();
        int[][] cannotBe = {{0, 1}, {1001, 1}, {-1, 1}, {1, -1}, {1, 101}, {LEAST, 0}, {1, MOST}};
        for (int[] pair : cannotBe) {
            due(13, "wear", x.wear(pair[0], pair[1]), false);
        }
        due(13, "LIFE has stayed", x.piece(1, 3), 19);
        due(13, "PRICE has stayed", x.mend(0), 25);
        due(13, "wear(1000, 100)", x.wear(1000, 100), true);
        due(13, "LIFE of 1000", x.piece(1, 3), 999);
        due(13, "PRICE of 100", x.mend(0), 2500);
        due(13, "wear(1, 0)", x.wear(1, 0), true);
        due(13, "1 at least", x.piece(0, 3), 1);
        due(13, "PRICE of 0", x.mend(0), 0);
        due(13, "wear(6, 2)", x.wear(6, 2), true);
        due(13, "just 1", x.piece(0, 3), 1);
        make(x, "box 0 0 0 1 1 1;", 1, 1, 1);
        x.draw();
        due(13, "LIFE goes over to other forms", x.piece(1, 3), 5);
        due(13, "PRICE too", x.mend(1), 2);
    }

    private static void pour() {
        CastWorks x = formed("box 0 0 0 1 1 1;", 1, 1, 1);
        due(14, "without a drawing", x.pour(1), NONE);
        x.draw();
        due(14, "pour(0)", x.pour(0), NONE);
        due(14, "pour(1001)", x.pour(1001), NONE);
        due(14, "pour(-1)", x.pour(-1), NONE);
        due(14, "pour(1)", x.pour(1), 1);
        due(14, "both pieces", x.piece(0, 4) * 100 + x.piece(1, 4), 101);
        due(14, "pour(1000)", x.pour(1000), 14);
        due(14, "both pieces", x.piece(0, 4) * 100 + x.piece(1, 4), 1515);
        due(14, "no more", x.pour(1), 0);
        x.mend(0);
        due(14, "the other one's end", x.pour(1000), 4);
        x.wear(10, 1);
        due(14, "a shorter life", x.pour(1000), 0);
        due(14, "nothing is taken back", x.piece(1, 4), 19);
        CastWorks empty = formed("", 1, 1, 1);
        empty.wear(1000, 1);
        empty.draw();
        due(14, "pour(1000)", empty.pour(1000), 1000);
        due(14, "pour(1000)", empty.pour(1000), 0);
    }

    private static void mend() {
        CastWorks x = formed("box 0 0 0 1 1 1;", 1, 1, 1);
        due(15, "without a drawing", x.mend(0), NONE);
        x.draw();
        x.wear(20, 3);
        x.pour(7);
        due(15, "mend(0)", x.mend(0), 75);
        due(15, "none behind it", x.piece(0, 4), 0);
        due(15, "the other one", x.piece(1, 4), 7);
        due(15, "mend(0) again", x.mend(0), 75);
        due(15, "mend(1)", x.mend(1), 3);
        due(15, "mend(2)", x.mend(2), NONE);
        due(15, "mend(-1)", x.mend(-1), NONE);
        due(15, "mend(least)", x.mend(LEAST), NONE);
    }

    private static void run() {
        CastWorks x = formed("box 0 0 0 1 1 1;", 1, 1, 1);
        due(16, "without a drawing", x.run(1), NONE);
        x.draw();
        due(16, "run(0)", x.run(0), NONE);
        due(16, "run(1001)", x.run(1001), NONE);
        due(16, "run(-1)", x.run(-1), NONE);
        due(16, "up to the end", x.run(15), 0);
        due(16, "poured", x.piece(0, 4), 15);
        due(16, "one more", x.run(1), 25);
        due(16, "poured", x.piece(0, 4) * 100 + x.piece(1, 4), 116);
        // Piece 0 is mended after 14 more and each 15 then; piece 1 after 3 more and each 19 then.
        due(16, "run(100)", x.run(100), 6 * 25 + 6 * 1);
        due(16, "poured", x.piece(0, 4) * 100 + x.piece(1, 4), (86 - 75) * 100 + (97 - 95));
        x.wear(1, 100);
        due(16, "each pour mends", x.run(1000), 1000 * 26 * 100);
        due(16, "poured", x.piece(0, 4) * 100 + x.piece(1, 4), 101);
    }

    private static void dry() {
        CastWorks x = new CastWorks();
        due(17, "dry(0)", x.dry(0), 2);
        due(17, "dry(100)", x.dry(100), 0);
        due(17, "dry(101)", x.dry(101), NONE);
        due(17, "dry(-1)", x.dry(-1), NONE);
        due(17, "dry(5)", x.dry(5), 100);
        x.order(1, 0, 1);
        due(17, "row with 5", x.row(), 6);
    }

    private static void order() {
        CastWorks x = new CastWorks();
        int[][] cannotBe = {{0, 0, 1}, {51, 0, 1}, {-1, 0, 1}, {1, -1, 1}, {1, 1001, 1}, {1, 0, 0}, {1, 0, 101}, {MOST, LEAST, MOST}};
        for (int[] o : cannotBe) {
            due(18, "order", x.order(o[0], o[1], o[2]), NONE);
        }
        due(18, "none came", x.row(), NONE);
        due(18, "the greatest", x.order(50, 1000, 100), 0);
        due(18, "the least", x.order(1, 0, 1), 1);
        for (int o = 2; o < 10; o++) {
            due(18, "order", x.order(1, 1000, 1), o);
        }
        due(18, "an 11th", x.order(1, 1000, 1), NONE);
        x.cancel(7);
        x.cancel(3);
        due(18, "the least that is free", x.order(1, 1000, 1), 3);
        due(18, "the next one", x.order(1, 1000, 1), 7);
        due(18, "an 11th", x.order(1, 1000, 1), NONE);
    }

    private static void cancel() {
        CastWorks x = new CastWorks();
        x.order(1, 0, 1);
        x.order(2, 0, 1);
        due(19, "cancel(-1)", x.cancel(-1), false);
        due(19, "cancel(2)", x.cancel(2), false);
        due(19, "cancel(10)", x.cancel(10), false);
        due(19, "cancel(least)", x.cancel(LEAST), false);
        due(19, "cancel(0)", x.cancel(0), true);
        due(19, "cancel(0)", x.cancel(0), false);
        due(19, "the other one's row", x.row(), 4);
        due(19, "cancel(1)", x.cancel(1), true);
        due(19, "row", x.row(), NONE);
    }

    private static void row() {
        CastWorks x = new CastWorks();
        x.order(3, 5, 1);
        x.order(2, 4, 2);
        x.order(1, 3, 1);
        due(20, "row", x.row(), 5);
        due(20, "its first", x.next(0), 1);

        // All rows are in time, so the numbers stand in order.
        CastWorks calm = new CastWorks();
        for (int o = 0; o < 10; o++) {
            calm.order(50 - o, 1000, 1 + o);
        }
        due(20, "row", calm.row(), 0);
        for (int i = 0; i < 10; i++) {
            due(20, "next", calm.next(i), i);
        }

        // All rows are late: by weight for each day.
        CastWorks late = new CastWorks();
        late.dry(100);
        for (int o = 0; o < 10; o++) {
            late.order(50, 0, 100);
        }
        due(20, "row", late.row(), 100 * (50 * 55 + 100 * 10));
        due(20, "next", late.next(0), 0);
        late.cancel(0);
        late.order(49, 0, 100);
        late.row();
        due(20, "the shortest first", late.next(0), 0);
        late.cancel(9);
        late.order(48, 0, 100);
        late.row();
        due(20, "the shortest first", late.next(0), 9);
        due(20, "then the next one", late.next(1), 0);
    }

    private static void next() {
        CastWorks x = new CastWorks();
        x.order(2, 3, 1);
        x.order(1, 3, 5);
        due(21, "ahead of row", x.next(0), NONE);
        x.row();
        due(21, "next(0)", x.next(0), 1);
        due(21, "next(1)", x.next(1), 0);
        due(21, "next(2)", x.next(2), NONE);
        due(21, "next(-1)", x.next(-1), NONE);
        due(21, "next(most)", x.next(MOST), NONE);
        x.order(1, 0, 100);
        due(21, "the latest row stays", x.next(0), 1);
        due(21, "the latest row stays", x.next(2), NONE);
        x.cancel(0);
        x.cancel(1);
        x.cancel(2);
        due(21, "the latest row stays", x.next(1), 0);
        due(21, "no row is found", x.row(), NONE);
        due(21, "the latest row that was found stays", x.next(1), 0);
    }

    private static void late() {
        CastWorks x = new CastWorks();
        x.order(2, 3, 1);
        x.order(1, 3, 5);
        due(22, "ahead of row", x.late(0), NONE);
        x.row();
        due(22, "late(0)", x.late(0), 0);
        due(22, "late(1)", x.late(1), 2);
        due(22, "late(2)", x.late(2), NONE);
        due(22, "late(-1)", x.late(-1), NONE);
        due(22, "late(least)", x.late(LEAST), NONE);
        x.dry(100);
        x.cancel(0);
        x.order(50, 0, 1);
        due(22, "as it was then", x.late(1), 2);
    }

    private static void cast() {
        CastWorks x = new CastWorks();
        int[][] cannotBe = {{-1, 1, 1}, {12, 1, 1}, {0, -1, 1}, {0, 100001, 1}, {0, 1, -1}, {0, 1, 1001},
            {12, 0, 0}, {-1, 0, 0}, {MOST, MOST, MOST}, {LEAST, LEAST, LEAST}};
        for (int[] c : cannotBe) {
            due(23, "cast", x.cast(c[0], c[1], c[2]), false);
        }
        due(23, "none was found", x.told(0), 0);
        due(23, "the greatest", x.cast(11, 100000, 1000), true);
        due(23, "the least", x.cast(0, 1, 0), true);
        due(23, "two were found", x.told(0), 2);
        due(23, "a false one changes nothing", x.cast(11, 1, 1001), false);
        due(23, "found anew", x.cast(0, 99000, 950), true);
        due(23, "mother", x.mother(0), 11);
        due(23, "gone, its detail is not looked at", x.cast(11, 0, -5), true);
        due(23, "gone", x.mother(11), NONE);
        due(23, "no mother any more", x.mother(0), -2);
        due(23, "gone again", x.cast(11, 0, 5000), true);
    }

    private static void copies() {
        CastWorks x = new CastWorks();
        x.cast(0, 10000, 1000);
        x.cast(1, 9000, 0);
        x.cast(2, 9900, 950);
        int[][] cannotBe = {{899, 0, 0}, {1001, 0, 0}, {900, -1, 0}, {900, 1001, 0}, {900, 0, -1}, {900, 0, 100001}, {LEAST, MOST, MOST}};
        for (int[] c : cannotBe) {
            due(24, "copies", x.copies(c[0], c[1], c[2]), false);
        }
        due(24, "nothing has changed", x.mother(2), 0);
        due(24, "nothing has changed", x.mother(1), -2);
        due(24, "copies(900, 0, 0)", x.copies(900, 0, 0), true);
        due(24, "mother(1)", x.mother(1), 0);
        due(24, "mother(2)", x.mother(2), -2);
        due(24, "copies(1000, 1000, 100000)", x.copies(1000, 1000, 100000), true);
        due(24, "mother(2)", x.mother(2), 0);
        due(24, "mother(1)", x.mother(1), 2);
        due(24, "told(1)", x.told(1), 100 + 50 + 900 + 950);
    }

    private static void mother() {
        CastWorks x = new CastWorks();
        x.cast(5, 999, 999);
        x.cast(3, 989, 949);
        due(25, "floors: 989.01, 949.05", x.mother(3), 5);
        x.cast(3, 989, 899);
        due(25, "50 is not above BOUND at first", x.mother(3), 5);
        x.cast(3, 988, 899);
        due(25, "51 is above BOUND at first", x.mother(3), -2);
        x.cast(3, 989, 949);
        x.copies(990, 950, 0);
        due(25, "a quarrel of 0 within 0", x.mother(3), 5);
        x.cast(3, 990, 949);
        due(25, "a quarrel of 1 above 0", x.mother(3), -2);
        x.copies(990, 950, 1);
        due(25, "a quarrel of 1 within 1", x.mother(3), 5);
        x.cast(2, 999, 999);
        due(25, "the least number", x.mother(3), 2);
        due(25, "alike are no mothers", x.mother(2), -2);
        due(25, "alike are no mothers", x.mother(5), -2);
        x.copies(1000, 1000, 100);
        x.cast(2, 999, 1000);
        due(25, "as great, with more detail", x.mother(5), 2);
        due(25, "not the other way round", x.mother(2), -2);
        due(25, "mother(-1)", x.mother(-1), NONE);
        due(25, "mother(12)", x.mother(12), NONE);
        due(25, "mother(0)", x.mother(0), NONE);
        due(25, "mother(least)", x.mother(LEAST), NONE);
        CastWorks less = new CastWorks();
        less.copies(1000, 1000, 100000);
        less.cast(0, 500, 1000);
        less.cast(1, 501, 0);
        due(25, "a greater size with less detail", less.mother(0), 1);
        due(25, "a lesser size with more detail", less.mother(1), -2);
    }

    private static void steps() {
        CastWorks x = new CastWorks();
        x.copies(1000, 1000, 1);
        for (int c = 0; c < 12; c++) {
            x.cast(c, 1 + c, 0);
        }
        for (int c = 0; c < 12; c++) {
            due(26, "steps", x.steps(c), 11 - c);
        }
        due(26, "steps(12)", x.steps(12), NONE);
        due(26, "steps(-1)", x.steps(-1), NONE);
        x.cast(6, 0, 0);
        due(26, "steps of none", x.steps(6), NONE);
        due(26, "a gap ends it", x.steps(0), 5);
    }

    private static void told() {
        CastWorks x = new CastWorks();
        due(27, "told(0)", x.told(0), 0);
        due(27, "told(1)", x.told(1), 0);
        due(27, "told(2)", x.told(2), NONE);
        due(27, "told(-1)", x.told(-1), NONE);
        x.cast(0, 1000, 900);
        x.cast(1, 980, 860);
        x.cast(2, 500, 500);
        due(27, "told(0)", x.told(0), 2);
        due(27, "told(1)", x.told(1), 10 + 5);
        x.copies(990, 950, 100000);
        due(27, "told(0)", x.told(0), 1);
        due(27, "told(1)", x.told(1), 15 + (970 - 500) + (817 - 500));
    }

    public static void main(String[] args) {
        newObject();
        feed();
        end();
        form();
        fault();
        solid();
        free();
        shut();
        draw();
        way();
        pieceAt();
        numbering();
        piece();
        wear();
        pour();
        mend();
        run();
        dry();
        order();
        cancel();
        row();
        next();
        late();
        cast();
        copies();
        mother();
        steps();
        told();
        finish("27 promises");
    }
}
