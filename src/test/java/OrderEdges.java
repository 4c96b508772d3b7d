/** The edges of promises 17 to 22: orders. */
public final class OrderEdges extends Checks {
    private OrderEdges() {
    }

    public static void main(String[] args) {
        runTests(OrderEdges.class, args, 17, 22);
    }

    // ---- promise 17: dry

    static void promise17DryOf0To100() {
        CastWorks x = new CastWorks();
        due("DRY at first", x.dry(0), 2);
        due("dry(100)", x.dry(100), 0);
        due("dry(-1)", x.dry(-1), NONE);
        due("dry(101)", x.dry(101), NONE);
        for (int far : FARTHEST) {
            due("dry(" + far + ")", x.dry(far), NONE);
        }
        due("it has stayed", x.dry(1), 100);
        due("dry(1)", x.dry(1), 1);
    }

    static void promise17DryRefusedLeavesTheRow() {
        CastWorks x = new CastWorks();
        x.order(1, 0, 1);
        x.dry(-1);
        x.dry(101);
        due("with DRY 2", x.row(), 3);
        x.dry(0);
        due("with DRY 0", x.row(), 1);
        x.dry(100);
        due("with DRY 100", x.row(), 101);
        x.dry(101);
        due("with DRY 100", x.row(), 101);
    }

    // ---- promise 18: order

    private static void ordersDue(int which, int from, int to) {
        int[] good = {1, 1, 1};
        for (int value : new int[] {from, from + 1, to - 1, to}) {
            int[] order = good.clone();
            order[which] = value;
            due("order with " + value, new CastWorks().order(order[0], order[1], order[2]), 0);
        }
        CastWorks x = new CastWorks();
        int[] order = good.clone();
        for (int value : new int[] {from - 1, to + 1, from - 2, to + 2, LEAST, LEAST + 1, -65536, 1 << 30, MOST - 1, MOST}) {
            order[which] = value;
            due("order with " + value, x.order(order[0], order[1], order[2]), NONE);
        }
        due("none has come", x.row(), NONE);
        due("no number is taken", x.order(1, 1, 1), 0);
    }

    static void promise18OrderOfPours1To50() {
        ordersDue(0, 1, 50);
    }

    static void promise18OrderOfDue0To1000() {
        ordersDue(1, 0, 1000);
    }

    static void promise18OrderOfWeight1To100() {
        ordersDue(2, 1, 100);
    }

    static void promise18OrdersAre10AtMost() {
        CastWorks x = new CastWorks();
        for (int o = 0; o < 10; o++) {
            due("order", x.order(1, 1000, 1), o);
        }
        due("an 11th", x.order(50, 0, 100), NONE);
        due("the row of 10", x.row(), 0);
        due("the last of the 10", x.next(9), 9);
        due("no 11th", x.next(10), NONE);
        for (int o = 9; o >= 0; o--) {
            due("cancel", x.cancel(o), true);
            due("an order in its place", x.order(1, 1000, 1), o);
            due("an 11th", x.order(1, 1000, 1), NONE);
        }
    }

    static void promise18OrderTakesTheLeastNumberThatIsFree() {
        CastWorks x = new CastWorks();
        for (int o = 0; o < 10; o++) {
            x.order(1, 1000, 1);
        }
        int[] gone = {9, 4, 0, 7};
        for (int o : gone) {
            x.cancel(o);
        }
        int[] again = {0, 4, 7, 9, NONE};
        for (int o : again) {
            due("order", x.order(1, 1000, 1), o);
        }
    }

    // ---- promise 19: cancel

    static void promise19CancelFrom0To9() {
        CastWorks x = new CastWorks();
        for (int o = 0; o < 10; o++) {
            x.order(1, 0, 1);
        }
        due("cancel(-1)", x.cancel(-1), false);
        due("cancel(10)", x.cancel(10), false);
        for (int far : FAR_OFF) {
            due("cancel(" + far + ")", x.cancel(far), false);
        }
        due("all 10 have stayed", x.row(), 55 + 2 * 10);
        for (int o = 0; o < 10; o++) {
            due("cancel(" + o + ")", x.cancel(o), true);
            due("cancel(" + o + ") again", x.cancel(o), false);
        }
        due("none is left", x.row(), NONE);
    }

    static void promise19CancelOfNoneSuch() {
        CastWorks x = new CastWorks();
        due("cancel(0)", x.cancel(0), false);
        x.order(50, 1000, 1);
        due("cancel(1)", x.cancel(1), false);
        due("cancel(0)", x.cancel(0), true);
        due("cancel(0)", x.cancel(0), false);
        due("its number is free", x.order(1, 1, 1), 0);
    }

    // ---- promise 20: row

    static void promise20RowWithoutOrders() {
        CastWorks x = new CastWorks();
        due("row", x.row(), NONE);
        x.order(0, 0, 0);
        due("row with one refused", x.row(), NONE);
        x.order(1, 1000, 1);
        due("row", x.row(), 0);
        x.cancel(0);
        due("row", x.row(), NONE);
    }

    static void promise20RowFromDay1On() {
        int[][] poursDryDueLate = {{1, 0, 0, 1}, {1, 0, 1, 0}, {1, 0, 2, 0}, {1, 2, 2, 1}, {1, 2, 3, 0}, {50, 0, 49, 1},
            {50, 0, 50, 0}, {50, 100, 149, 1}, {50, 100, 150, 0}, {50, 100, 0, 150}, {1, 100, 1000, 0}};
        for (int[] one : poursDryDueLate) {
            CastWorks x = new CastWorks();
            x.dry(one[1]);
            x.order(one[0], one[2], 7);
            due("row", x.row(), 7 * one[3]);
            due("late", x.late(0), one[3]);
        }
    }

    static void promise20RowOrderByOrder() {
        CastWorks x = new CastWorks();
        x.order(5, 0, 1);
        x.order(3, 0, 10);
        x.order(2, 0, 100);
        due("row", x.row(), 100 * (2 + 2) + 10 * (5 + 2) + 10 + 2);
        due("first the one with most WEIGHT a POUR", x.next(0) * 100 + x.late(0), 204);
        due("then the next one", x.next(1) * 100 + x.late(1), 107);
        due("then the last one", x.next(2) * 100 + x.late(2), 12);
    }

    static void promise20RowOfTheGreatestSum() {
        CastWorks x = new CastWorks();
        x.dry(100);
        for (int o = 0; o < 10; o++) {
            x.order(50, 0, 100);
        }
        due("row", x.row(), 100 * (50 * 55 + 100 * 10));
        due("the last one is late by", x.late(9), 600);
    }

    static void promise20RowOfSeveralTheLesserNumbers() {
        CastWorks x = new CastWorks();
        for (int o = 0; o < 10; o++) {
            x.order(10 - o, 1000, o + 1);
        }
        due("row of none late", x.row(), 0);
        for (int i = 0; i < 10; i++) {
            due("next", x.next(i), i);
        }
        CastWorks y = new CastWorks();
        for (int o = 0; o < 10; o++) {
            y.order(3, 0, 4);
        }
        due("row of all alike", y.row(), 4 * (3 * 55 + 2 * 10));
        for (int i = 0; i < 10; i++) {
            due("next", y.next(i), i);
        }
        // By weight for each day 2 : 1 and 4 : 2 are alike.
        CastWorks z = new CastWorks();
        z.order(4, 0, 2);
        z.order(2, 0, 1);
        due("row", z.row(), 2 * 6 + 8);
        due("next", z.next(0), 0);
    }

    static void promise20RowWithTheLeastSum() {
        CastWorks x = new CastWorks();
        x.dry(0);
        x.order(5, 5, 1);
        x.order(1, 1, 6);
        due("row", x.row(), 1);
        due("next", x.next(0), 1);
        x.cancel(1);
        x.order(1, 1, 1);
        due("row", x.row(), 1);
        x.cancel(1);
        x.order(5, 9, 1);
        due("row", x.row(), 1);
        due("next", x.next(0), 0);
    }

    // ---- promise 21: next

    static void promise21NextFromTheFirstToTheLast() {
        for (int count = 1; count <= 10; count++) {
            CastWorks x = new CastWorks();
            for (int o = 0; o < count; o++) {
                x.order(1, 1000, 1);
            }
            due("ahead of row", x.next(0), NONE);
            x.row();
            due("next(-1)", x.next(-1), NONE);
            due("the first", x.next(0), 0);
            due("the last", x.next(count - 1), count - 1);
            due("behind the last", x.next(count), NONE);
            for (int far : FAR_OFF) {
                due("next(" + far + ")", x.next(far), NONE);
            }
        }
    }

    static void promise21NextOfTheLatestRow() {
        CastWorks x = new CastWorks();
        x.order(1, 1000, 1);
        x.order(1, 1000, 1);
        x.order(1, 1000, 1);
        x.row();
        x.cancel(0);
        due("the ROW stays without another one", x.next(0), 0);
        due("and its length", x.next(2), 2);
        x.row();
        due("the first of a shorter ROW", x.next(0), 1);
        due("its last", x.next(1), 2);
        due("behind its last", x.next(2), NONE);
        x.order(1, 1000, 1);
        due("an ORDER that came then is not in it", x.next(2), NONE);
        x.cancel(0);
        x.cancel(1);
        x.cancel(2);
        due("row without ORDERS", x.row(), NONE);
        due("the latest one that was found", x.next(0), 1);
        due("its last", x.next(1), 2);
    }

    // ---- promise 22: late

    static void promise22LateFromTheFirstToTheLast() {
        for (int count = 1; count <= 10; count++) {
            CastWorks x = new CastWorks();
            x.dry(0);
            for (int o = 0; o < count; o++) {
                x.order(1, 1, 1);
            }
            due("ahead of row", x.late(0), NONE);
            x.row();
            due("late(-1)", x.late(-1), NONE);
            due("the first is in time", x.late(0), 0);
            due("the last", x.late(count - 1), count - 1);
            due("behind the last", x.late(count), NONE);
            for (int far : FAR_OFF) {
                due("late(" + far + ")", x.late(far), NONE);
            }
        }
    }

    static void promise22LateIs0InTime() {
        CastWorks x = new CastWorks();
        x.order(1, 2, 1);
        x.row();
        due("a day late", x.late(0), 1);
        x.cancel(0);
        x.order(1, 3, 1);
        x.row();
        due("on the day", x.late(0), 0);
        x.cancel(0);
        x.order(1, 1000, 1);
        x.row();
        due("long ahead", x.late(0), 0);
    }

    static void promise22LateAsItWasThen() {
        CastWorks x = new CastWorks();
        x.order(1, 0, 1);
        x.order(1, 0, 1);
        x.row();
        x.dry(100);
        due("with another DRY", x.late(0) * 10 + x.late(1), 34);
        x.cancel(0);
        x.order(50, 0, 100);
        due("with another ORDER of that number", x.late(0) * 10 + x.late(1), 34);
        x.cancel(0);
        x.cancel(1);
        x.row();
        due("with no ORDERS", x.late(0) * 10 + x.late(1), 34);
        x.order(1, 0, 1);
        x.row();
        due("with another ROW", x.late(0), 101);
        due("behind its last", x.late(1), NONE);
    }
}
