/** The edges of promises 23 to 27: found casts. */
public final class CastEdges extends Checks {
    private CastEdges() {
    }

    public static void main(String[] args) {
        runTests(CastEdges.class, args, 23, 27);
    }

    // ---- promise 23: cast

    static void promise23CastOfNumbers0To11() {
        CastWorks x = new CastWorks();
        due("cast(-1)", x.cast(-1, 5, 5), false);
        due("cast(12)", x.cast(12, 5, 5), false);
        for (int far : FAR_OFF) {
            due("cast(" + far + ")", x.cast(far, 5, 5), false);
        }
        due("none was found", x.told(0), 0);
        for (int c = 0; c < 12; c++) {
            due("cast(" + c + ")", x.cast(c, 5, 5), true);
            due("as many were found", x.told(0), c + 1);
        }
    }

    static void promise23CastOfSize1To100000() {
        CastWorks x = new CastWorks();
        x.copies(1000, 1000, 0);
        due("the least", x.cast(0, 1, 5), true);
        due("the greatest", x.cast(1, 100000, 5), true);
        due("beyond", x.cast(0, 100001, 5), false);
        due("below", x.cast(0, -1, 5), false);
        for (int far : FARTHEST) {
            due("cast of " + far, x.cast(0, far, 5), false);
        }
        x.cast(2, 1, 4);
        x.copies(1000, 1000, 1);
        due("the SIZE has stayed 1", x.mother(2), 0);
        x.cast(2, 99999, 5);
        due("the SIZE is 100000", x.mother(2), 1);
        x.cast(2, 100000, 5);
        due("not more", x.mother(2), -2);
    }

    static void promise23CastOfDetail0To1000() {
        CastWorks x = new CastWorks();
        x.copies(1000, 1000, 1);
        due("the least", x.cast(0, 10, 0), true);
        due("the greatest", x.cast(1, 10, 1000), true);
        due("below", x.cast(0, 10, -1), false);
        due("beyond", x.cast(1, 10, 1001), false);
        for (int far : FARTHEST) {
            due("cast with " + far, x.cast(0, 10, far), false);
        }
        due("two were found", x.told(0), 2);
        x.cast(2, 10, 999);
        due("the DETAIL is 1000", x.mother(2), 1);
        x.cast(2, 10, 1);
        due("the DETAIL has stayed 0", x.mother(0), 2);
    }

    static void promise23CastOfSize0IsNoneAnyMore() {
        for (int detail : new int[] {0, 1000, -1, 1001, LEAST, MOST}) {
            CastWorks x = new CastWorks();
            x.cast(3, 1000, 1000);
            x.cast(4, 990, 950);
            due("its mother", x.mother(4), 3);
            due("cast(3, 0, " + detail + ")", x.cast(3, 0, detail), true);
            due("mother of none", x.mother(3), NONE);
            due("steps of none", x.steps(3), NONE);
            due("no mother any more", x.mother(4), -2);
            due("one is left", x.told(0), 1);
            due("cast(3, 0) again", x.cast(3, 0, detail), true);
            due("cast(-1, 0)", x.cast(-1, 0, detail), false);
            due("cast(12, 0)", x.cast(12, 0, detail), false);
            due("found again", x.cast(3, 1000, 1000), true);
            due("its mother", x.mother(4), 3);
        }
    }

    static void promise23CastRefusedLeavesIt() {
        CastWorks x = new CastWorks();
        x.cast(0, 1000, 1000);
        x.cast(1, 990, 950);
        x.copies(990, 950, 0);
        int[][] cannotBe = {{0, 100001, 0}, {0, -1, 1000}, {0, 1000, 1001}, {0, 999, -1}, {1, 1, 1001},
            {1, 100001, 950}, {12, 990, 950}, {-1, 1, 1}};
        for (int[] one : cannotBe) {
            due("cast", x.cast(one[0], one[1], one[2]), false);
            due("its mother has stayed", x.mother(1), 0);
            due("as many were found", x.told(0), 1);
        }
    }

    static void promise23CastFoundAnew() {
        CastWorks x = new CastWorks();
        x.cast(0, 1000, 1000);
        x.cast(1, 990, 950);
        due("its mother", x.mother(1), 0);
        due("found anew with another DETAIL", x.cast(1, 990, 900), true);
        due("its QUARREL", x.told(1), 50);
        due("found anew with another SIZE", x.cast(1, 980, 950), true);
        due("its QUARREL", x.told(1), 10);
        due("found anew", x.cast(1, 500, 0), true);
        due("no mother", x.mother(1), -2);
        due("two were found", x.told(0), 2);
    }

    // ---- promise 24: copies

    private static void copiesDue(int which, int from, int to) {
        CastWorks x = new CastWorks();
        x.cast(0, 10000, 1000);
        x.cast(1, 9400, 300);
        for (int value : new int[] {from, from + 1, to - 1, to}) {
            int[] good = {940, 300, 0};
            good[which] = value;
            due("copies with " + value, x.copies(good[0], good[1], good[2]), true);
        }
        due("copies", x.copies(940, 300, 0), true);
        for (int value : new int[] {from - 1, to + 1, LEAST, LEAST + 1, -65536, 1 << 30, MOST - 1, MOST}) {
            int[] bad = {950, 310, 1};
            bad[which] = value;
            due("copies with " + value, x.copies(bad[0], bad[1], bad[2]), false);
            due("SHRINK and BLUR have stayed", x.mother(1), 0);
            due("told(1)", x.told(1), 0);
        }
        x.cast(1, 9400, 301);
        due("BOUND has stayed", x.mother(1), -2);
    }

    static void promise24CopiesOfShrink900To1000() {
        copiesDue(0, 900, 1000);
        CastWorks x = new CastWorks();
        x.cast(0, 10000, 0);
        x.cast(1, 9000, 0);
        x.copies(900, 0, 0);
        due("SHRINK 900", x.mother(1), 0);
        x.cast(0, 10000, 1);
        x.cast(1, 10000, 0);
        x.copies(1000, 0, 0);
        due("SHRINK 1000", x.mother(1), 0);
    }

    static void promise24CopiesOfBlur0To1000() {
        copiesDue(1, 0, 1000);
        CastWorks x = new CastWorks();
        x.cast(0, 10000, 1000);
        x.cast(1, 9000, 0);
        x.copies(900, 0, 0);
        due("BLUR 0", x.mother(1), 0);
        x.cast(1, 9000, 1000);
        x.copies(900, 1000, 0);
        due("BLUR 1000", x.mother(1), 0);
    }

    static void promise24CopiesOfBound0To100000() {
        copiesDue(2, 0, 100000);
        CastWorks x = new CastWorks();
        x.cast(0, 100000, 1000);
        x.copies(1000, 1000, 100000);
        x.cast(1, 1, 999);
        due("a QUARREL of 100000 with BOUND 100000", x.mother(1), 0);
        x.cast(1, 1, 998);
        due("a QUARREL of 100001 with BOUND 100000", x.mother(1), -2);
        x.cast(1, 1, 999);
        x.copies(1000, 1000, 99999);
        due("a QUARREL of 100000 with BOUND 99999", x.mother(1), -2);
    }

    static void promise24CopiesAtFirst() {
        CastWorks x = new CastWorks();
        x.cast(0, 1000, 1000);
        x.cast(1, 990, 950);
        due("SHRINK 990, BLUR 950", x.told(1), 0);
        due("with a mother", x.mother(1), 0);
        x.cast(1, 990, 900);
        due("BOUND 50", x.mother(1), 0);
        x.cast(1, 990, 899);
        due("BOUND 50", x.mother(1), -2);
    }

    // ---- promise 25: mother

    static void promise25MotherFrom0To11() {
        CastWorks x = new CastWorks();
        for (int c = 0; c < 12; c++) {
            due("none yet", x.mother(c), NONE);
            x.cast(c, 10 * (c + 1), 0);
            due("one with none", x.mother(c), -2);
        }
        due("mother(-1)", x.mother(-1), NONE);
        due("mother(12)", x.mother(12), NONE);
        for (int far : FAR_OFF) {
            due("mother(" + far + ")", x.mother(far), NONE);
        }
        due("the first one's mother", x.mother(0), 1);
        due("the last one's mother", x.mother(11), -2);
        x.cast(0, 130, 0);
        due("the last one's mother", x.mother(11), 0);
    }

    static void promise25MotherIsGreaterOrAsGreatWithMoreDetail() {
        int[][] sizeDetailMother = {{501, 500, 0}, {501, 0, 0}, {501, 1000, 0}, {500, 501, 0}, {500, 500, -2},
            {500, 499, -2}, {500, 1000, 0}, {499, 1000, -2}, {499, 500, -2}, {499, 501, -2}};
        for (int[] one : sizeDetailMother) {
            CastWorks x = new CastWorks();
            x.copies(1000, 1000, 100000);
            x.cast(0, one[0], one[1]);
            x.cast(1, 500, 500);
            due("mother of 500, 500 with " + one[0] + ", " + one[1], x.mother(1), one[2]);
        }
    }

    static void promise25MotherWithinTheBound() {
        for (int bound : new int[] {0, 1, 49, 50, 51, 1000}) {
            CastWorks x = new CastWorks();
            x.copies(990, 950, bound);
            x.cast(0, 10000, 1000);
            x.cast(1, 9900 - bound, 950);
            due("a QUARREL of BOUND " + bound, x.mother(1), 0);
            x.cast(1, 9900 - bound - 1, 950);
            due("a QUARREL of SIZE that is 1 above BOUND " + bound, x.mother(1), -2);
            x.cast(1, 9900 - bound, 949);
            due("a QUARREL with DETAIL that is 1 above BOUND " + bound, x.mother(1), -2);
        }
    }

    static void promise25MotherQuarrelsWithoutSigns() {
        int[][] sizeAndDetail = {{9900, 950}, {9925, 975}, {9875, 925}, {9925, 925}, {9875, 975}, {9950, 950},
            {9900, 1000}, {9850, 950}};
        for (int[] one : sizeAndDetail) {
            CastWorks x = new CastWorks();
            x.cast(0, 10000, 1000);
            x.cast(1, one[0], one[1]);
            due("within 50", x.mother(1), 0);
            due("how far", x.told(1), one[0] == 9900 && one[1] == 950 ? 0 : 50);
            int out = one[0] < 9900 ? -1 : 1;
            x.cast(1, one[0] + 51 * out, one[1]);
            due("not within 50", x.mother(1), -2);
        }
    }

    static void promise25MotherShrinksToTheFloor() {
        CastWorks x = new CastWorks();
        x.copies(990, 950, 0);
        x.cast(0, 1009, 1);
        x.cast(1, 998, 0);
        due("floors of 998.91 and 0.95", x.mother(1), 0);
        x.cast(1, 999, 0);
        due("not 999", x.mother(1), -2);
        x.cast(1, 998, 1);
        due("not 1", x.mother(1), -2);
        x.cast(0, 1001, 999);
        x.cast(1, 990, 949);
        due("floors of 990.99 and 949.05", x.mother(1), 0);
        x.cast(0, 2, 0);
        x.cast(1, 1, 0);
        due("a floor of 1.98", x.mother(1), 0);
        x.cast(0, 100000, 1000);
        x.cast(1, 99000, 950);
        due("the greatest", x.mother(1), 0);
    }

    static void promise25MotherOfSeveralTheLeastNumber() {
        CastWorks x = new CastWorks();
        x.copies(1000, 1000, 50);
        x.cast(11, 1000, 500);
        x.cast(6, 1010, 500);
        due("the only one", x.mother(11), 6);
        x.cast(7, 1000, 510);
        due("as far, with a greater number", x.mother(11), 6);
        x.cast(0, 1005, 495);
        due("as far, with a lesser number", x.mother(11), 0);
        x.cast(8, 1009, 500);
        due("less far, with a greater number", x.mother(11), 8);
    }

    // ---- promise 26: steps

    static void promise26StepsFrom0To11() {
        CastWorks x = new CastWorks();
        x.copies(1000, 1000, 1);
        for (int c = 0; c < 12; c++) {
            x.cast(c, 1 + c, 0);
            due("from the greatest", x.steps(c), 0);
            due("from the least", x.steps(0), c);
        }
        for (int c = 0; c < 12; c++) {
            due("steps(" + c + ")", x.steps(c), 11 - c);
        }
        x.cast(11, 0, 0);
        due("with the greatest one gone", x.steps(0), 10);
    }

    static void promise26StepsByMothersToOneThatHasNone() {
        CastWorks x = new CastWorks();
        x.cast(4, 10000, 1000);
        x.cast(2, 9900, 950);
        x.cast(9, 9900, 940);
        x.cast(0, 9801, 903);
        x.cast(7, 9702, 857);
        x.cast(5, 5000, 500);
        x.cast(1, 4950, 475);
        int[][] castMotherSteps = {{4, -2, 0}, {2, 4, 1}, {9, 4, 1}, {0, 2, 2}, {7, 0, 3}, {5, -2, 0}, {1, 5, 1}};
        for (int[] one : castMotherSteps) {
            due("mother(" + one[0] + ")", x.mother(one[0]), one[1]);
            due("steps(" + one[0] + ")", x.steps(one[0]), one[2]);
        }
        x.copies(990, 950, 0);
        due("a MOTHER less on the way", x.steps(7), 1);
        due("told(0)", x.told(0), 4);
    }

    static void promise26StepsOfNoneSuch() {
        CastWorks x = new CastWorks();
        x.cast(0, 5, 5);
        x.cast(11, 5, 5);
        due("steps(0)", x.steps(0), 0);
        due("steps(11)", x.steps(11), 0);
        due("steps(-1)", x.steps(-1), NONE);
        due("steps(12)", x.steps(12), NONE);
        due("steps(1)", x.steps(1), NONE);
        for (int far : FAR_OFF) {
            due("steps(" + far + ")", x.steps(far), NONE);
        }
        x.cast(0, 0, 0);
        due("of one that is none any more", x.steps(0), NONE);
    }

    // ---- promise 27: told

    static void promise27ToldOf0And1Alone() {
        CastWorks x = new CastWorks();
        due("told(0) of none", x.told(0), 0);
        due("told(1) of none", x.told(1), 0);
        x.cast(0, 1000, 1000);
        x.cast(1, 991, 952);
        due("told(0)", x.told(0), 1);
        due("told(1)", x.told(1), 3);
        due("told(-1)", x.told(-1), NONE);
        due("told(2)", x.told(2), NONE);
        for (int far : FAR_OFF) {
            due("told(" + far + ")", x.told(far), NONE);
        }
    }

    static void promise27ToldOfAll12() {
        CastWorks x = new CastWorks();
        for (int c = 0; c < 12; c++) {
            x.cast(c, 1000, 1000);
        }
        due("all alike have none", x.told(0), 12);
        due("and no QUARREL", x.told(1), 0);
        x.copies(1000, 1000, 100000);
        for (int c = 1; c < 12; c++) {
            x.cast(c, 1, 0);
        }
        due("one has none", x.told(0), 1);
        due("eleven QUARRELS", x.told(1), 11 * (999 + 1000));
        x.cast(0, 90000, 1000);
        due("the greatest sum but a little", x.told(1), 11 * (89999 + 1000));
        x.copies(1000, 1000, 89999 + 999);
        due("none has one", x.told(0), 12);
        due("QUARRELS above BOUND are not told", x.told(1), 0);
    }

    static void promise27ToldOfTheFirstAndTheLastCast() {
        for (int c = 0; c < 12; c++) {
            CastWorks x = new CastWorks();
            int mother = c == 5 ? 6 : 5;
            x.cast(c, 990, 949);
            due("CAST " + c + " has none", x.told(0), 1);
            due("no QUARREL", x.told(1), 0);
            x.cast(mother, 1000, 1000);
            due("CAST " + mother + " has none", x.told(0), 1);
            due("the QUARREL of CAST " + c, x.told(1), 1);
        }
    }
}
