/** Promises 10 to 13: stride, danger, abort, saved. */
public final class AbortTest {
    private static final Due due = new Due();

    public static void main(String[] args) {
        strides();
        dangers();
        dangerRefusals();
        runs();
        hundredTenths();
        coverOnTheWay();
        slipOfTheBody();
        dangerOnTheWay();
        beyondTheEnd();
        edgesOfTheSet();
        lastTenthToRun();
        aborts();
        refusals();
        due.end("AbortTest");
    }

    private static void strides() {
        StuntSet x = new StuntSet();
        due.is("stride(1)", x.stride(1), 4);
        due.is("stride(20)", x.stride(20), 1);
        due.is("stride(0)", x.stride(0), -4);
        due.is("stride(-5)", x.stride(-5), -4);
        due.is("stride(21)", x.stride(21), -6);
        due.is("stride(7)", x.stride(7), 20);
        due.refused(x, 0, 0, 0, 2, 1);
    }

    private static void dangers() {
        StuntSet x = new StuntSet();
        x.mover(0, 1, 0, 0, 0);
        x.mover(0, 3, 0, 0, 0);
        x.mover(1, 2, 200, 10, 3);
        x.leg(2, 0, 10, 2, 0);
        due.is("far 3 with 1 and 2", x.danger(0, 203, 0), 1);
        due.is("far 4", x.danger(0, 204, 0), 0);
        due.is("far 4 with 3 and 2", x.danger(1, 204, 0), 1);
        due.is("ahead of the car at 11", x.danger(0, 204, 11), 0);
        due.is("ahead of the car at 12", x.danger(0, 204, 12), 1);
        due.is("behind the car at 14, at 201 if late by 2", x.danger(0, 198 + 20, 14), 0);
        due.is("left of 200 at 12", x.danger(0, 140, 12), 1);
        due.is("late cars still endanger at 14", x.danger(0, 260, 14), 1);
        due.is("last late: gone from 200 at 15", x.danger(0, 140, 15), 1);
        due.is("at 30 without lates it is at 210", x.danger(0, 213, 30), 1);
        due.is("at 30 late by 3 at 208", x.danger(0, 205, 30), 1);
        due.is("at 33 no more", x.danger(0, 205, 33), 0);
        due.is("at 33 it is at 210", x.danger(0, 207, 33), 1);
        due.is("at 600", x.danger(0, 213, 600), 1);
        due.is("another body is none", x.danger(0, 0, 0), 0);
    }

    private static void dangerRefusals() {
        StuntSet x = new StuntSet();
        x.mover(0, 0, 0, 0, 0);
        x.mover(1, 0, 0, 0, 0);
        due.is("no mover", x.danger(2, 0, -1), -1);
        due.is("no cell", x.danger(1, 400, -1), -1);
        due.is("cell -1", x.danger(0, -1, 0), -1);
        due.is("car", x.danger(1, 0, -1), -2);
        due.is("tenth -1", x.danger(0, 0, -1), -4);
        due.is("tenth 601", x.danger(0, 0, 601), -6);
        due.is("a car there", x.danger(0, 0, 600), 1);
        due.refused(x, 3, 1, 0, 1, 1);
    }

    private static void runs() {
        StuntSet x = new StuntSet();
        x.mover(0, 0, 210, 5, 0);
        x.leg(0, 0, 2, 10, 0);
        due.is("no safe cell", x.saved(0, 0), -9);
        x.safe(213, true);
        due.is("three strides of 4", x.saved(0, 0), 12);
        due.is("from 211 at 15: two", x.saved(0, 15), 23);
        due.is("from 212 at 25: one", x.saved(0, 25), 29);
        x.safe(212, true);
        due.is("in a safe cell at once", x.saved(0, 25), 25);
        due.is("at 24 it is still in 211", x.saved(0, 24), 28);
        x.safe(271, true);
        x.stride(1);
        due.is("by corners too", x.saved(0, 0), 2);
        x.safe(212, false);
        x.safe(213, false);
        due.is("271 is far 3", x.saved(0, 0), 3);
        for (int d = 0; d < 8; d++) {
            int[] beside = {211, 231, 230, 229, 209, 189, 190, 191};
            StuntSet y = new StuntSet();
            y.mover(0, 0, 210, 0, 0);
            y.safe(beside[d], true);
            due.is("beside by " + d, y.saved(0, 0), 4);
        }
        StuntSet z = new StuntSet();
        z.mover(0, 0, 19, 0, 0);
        z.stride(1);
        z.safe(20, true);
        due.is("rows do not run over their ends", z.saved(0, 0), 19);
    }

    private static void hundredTenths() {
        StuntSet x = new StuntSet();
        x.mover(0, 0, 0, 0, 0);
        x.safe(10, true);
        x.stride(10);
        due.is("ten strides of 10", x.saved(0, 0), 100);
        x.safe(10, false);
        x.safe(11, true);
        due.is("eleven are too many", x.saved(0, 0), -9);
        x.stride(9);
        due.is("eleven of 9", x.saved(0, 0), 99);
        x.stride(20);
        x.safe(5, true);
        due.is("five of 20", x.saved(0, 7), 107);
        x.safe(5, false);
        x.safe(6, true);
        due.is("six of 20", x.saved(0, 7), -9);
        x.stride(17);
        due.is("six of 17 are 102", x.saved(0, 7), -9);
        x.stride(16);
        due.is("six of 16", x.saved(0, 7), 103);
    }

    private static void coverOnTheWay() {
        StuntSet x = new StuntSet();
        x.mover(0, 0, 0, 0, 0);
        x.safe(2, true);
        x.stride(1);
        x.cover(1, true);
        due.is("around cover", x.saved(0, 0), 2);
        x.cover(21, true);
        x.cover(20, true);
        due.is("shut in", x.saved(0, 0), -9);
        x.cover(20, false);
        due.is("around two", x.saved(0, 0), 4);
        x.cover(2, true);
        due.is("a safe cell under cover is not gone to", x.saved(0, 0), -9);
        x.safe(0, true);
        x.cover(0, true);
        due.is("but one may be in it", x.saved(0, 0), 0);
        x.safe(0, false);
        x.cover(2, false);
        due.is("and may leave it", x.saved(0, 0), 4);
        StuntSet y = new StuntSet();
        y.mover(0, 0, 0, 0, 0);
        y.safe(1, true);
        y.cover(0, true);
        y.cover(20, true);
        y.cover(21, true);
        y.mover(1, 0, 1, 8, 0);
        y.leg(1, 0, 5, 1, 0);
        due.is("it stays under cover until the car has gone at 9", y.saved(0, 0), 12);
        y.cover(1, true);
        due.is("but does not go under cover", y.saved(0, 0), -9);
    }

    /** From its PLACE then (LATE 0), however great its SLIP. */
    private static void slipOfTheBody() {
        StuntSet x = new StuntSet();
        x.mover(0, 0, 0, 5, 9);
        x.leg(0, 0, 10, 1, 0);
        x.safe(10, true);
        due.is("at 5 in cell 0", x.saved(0, 5), 45);
        due.is("at 6 in cell 1", x.saved(0, 6), 42);
        due.is("at 14 in cell 9", x.saved(0, 14), 18);
        due.is("at 15 in cell 10", x.saved(0, 15), 15);
        due.is("nobody is lost", x.abort(15), 0);
    }

    private static void dangerOnTheWay() {
        StuntSet x = new StuntSet();
        x.mover(0, 0, 5, 0, 0);
        x.mover(1, 0, 45, 0, 0);
        x.safe(5, true);
        due.is("no danger yet", x.saved(0, 0), 0);
        x.leg(1, 6, 2, 2, 0);
        due.is("no danger at 3", x.saved(0, 3), 3);
        due.is("danger where it is safe at 4", x.saved(0, 4), -9);
        x.safe(5, false);
        x.safe(6, true);
        due.is("gone as the car comes: the new cell counts", x.saved(0, 0), 4);
        due.is("too late by one", x.saved(0, 1), -9);
        x.cue(1, 0, 9);
        due.is("late cars are a danger at once all the same", x.saved(0, 0), 4);
        x.cue(1, 1, 0);
        due.is("the car a tenth later", x.saved(0, 1), 5);
        StuntSet y = new StuntSet();
        y.mover(0, 0, 100, 0, 0);
        y.mover(1, 1, 108, 0, 0);
        y.safe(110, true);
        due.is("around a car that stands, with a step more", y.saved(0, 0), 44);
        y.safe(110, false);
        y.safe(111, true);
        due.is("around it", y.saved(0, 0), 44);
        y.leg(1, 2, 6, 1, 0);
        y.cue(1, 36, 0);
        due.is("or straight on when it goes: no sooner by it", y.saved(0, 0), 44);
        StuntSet z = new StuntSet();
        z.mover(0, 0, 0, 0, 0);
        z.stride(2);
        z.safe(3, true);
        z.cover(20, true);
        z.cover(21, true);
        z.cover(22, true);
        z.cover(23, true);
        z.mover(1, 0, 42, 0, 0);
        z.leg(1, 6, 2, 2, 10);
        z.leg(1, 2, 2, 1, 0);
        due.is("waits until the car at 2 has gone at 15", z.saved(0, 0), 18);
    }

    private static void beyondTheEnd() {
        StuntSet x = new StuntSet();
        x.mover(0, 0, 0, 0, 0);
        x.mover(1, 0, 5, 598, 0);
        x.leg(1, 4, 4, 1, 0);
        x.safe(5, true);
        due.is("at 600 the car is at 3, and stays there", x.saved(0, 600), 620);
        x.cover(20, true);
        x.cover(21, true);
        x.cover(22, true);
        x.cover(23, true);
        due.is("no way by", x.saved(0, 600), -9);
        x.stride(20);
        x.cover(22, false);
        x.cover(23, false);
        due.is("around it, five strides", x.saved(0, 590), 690);
        due.is("around it, at 600 and 100 at latest", x.saved(0, 600), 700);
        x.safe(5, false);
        x.safe(6, true);
        due.is("six strides", x.saved(0, 600), -9);
    }

    /** No way leads off the set and back, and a car in the last row and column is a danger there. */
    private static void edgesOfTheSet() {
        int[] corners = {0, 19, 380, 399};
        int[][] walls = {{1, 20, 21}, {18, 38, 39}, {360, 361, 381}, {378, 379, 398}};
        for (int i = 0; i < 4; i++) {
            StuntSet x = new StuntSet();
            x.mover(1, 0, corners[i], 600, 0);
            x.mover(0, 0, corners[i], 0, 0);
            x.mover(0, 0, 210, 0, 0);
            x.cue(1, 0, 0);
            due.is("danger by mover 0", x.danger(1, corners[i], 0), 1);
            due.is("in danger in the corner", x.saved(1, 0), -9);
            x.safe(corners[i], true);
            due.is("nor is it safe for another", x.saved(2, 0), -9);
            x.mover(1, 3, corners[i], 0, 0);
            x.mover(0, 3, 210, 0, 0);
            due.is("a great car in the corner", x.saved(4, 0), -9);
            for (int cell = 0; cell < 400; cell++) {
                int far = Math.max(Math.abs(cell % 20 - corners[i] % 20), Math.abs(cell / 20 - corners[i] / 20));
                if (far == 6 || far == 7) {
                    StuntSet one = new StuntSet();
                    one.mover(0, 3, cell, 0, 0);
                    one.mover(1, 3, corners[i], 0, 0);
                    one.safe(cell, true);
                    due.is("at " + cell + " with a great car at " + corners[i], one.abort(0), far == 6 ? 1 : 0);
                }
            }
            StuntSet y = new StuntSet();
            y.mover(0, 0, corners[i], 0, 0);
            y.stride(1);
            for (int cell = 0; cell < 400; cell++) {
                y.safe(cell, cell != corners[i]);
            }
            due.is("out of the corner", y.saved(0, 0), 1);
            for (int wall : walls[i]) {
                y.cover(wall, true);
            }
            due.is("shut in", y.saved(0, 0), -9);
            y.mover(0, 0, 210, 0, 0);
            y.safe(210, false);
            due.is("the other runs", y.abort(0), 1);
        }
        StuntSet z = new StuntSet();
        z.mover(0, 0, 390, 0, 0);
        z.stride(1);
        z.safe(399, true);
        due.is("along the last row", z.saved(0, 0), 9);
        for (int cell = 360; cell < 380; cell++) {
            z.cover(cell, true);
        }
        due.is("along the last row alone", z.saved(0, 0), 9);
        z.safe(399, false);
        z.safe(350, true);
        z.cover(370, false);
        due.is("up from the last row", z.saved(0, 0), 2);
        StuntSet w = new StuntSet();
        w.mover(0, 0, 200, 0, 0);
        w.stride(1);
        w.safe(0, true);
        for (int y = 0; y < 20; y++) {
            w.cover(20 * y + 1, true);
        }
        due.is("along the first column alone", w.saved(0, 0), 10);
    }

    /** The only way out is a cell in which a car stands until it goes. */
    private static void lastTenthToRun() {
        StuntSet x = new StuntSet();
        x.mover(0, 0, 0, 0, 0);
        x.cover(20, true);
        x.cover(21, true);
        x.safe(1, true);
        x.stride(1);
        x.mover(1, 0, 1, 99, 0);
        x.leg(1, 0, 1, 1, 0);
        due.is("the car goes at 100", x.saved(0, 0), 100);
        x.cue(1, 100, 0);
        due.is("the car goes at 101", x.saved(0, 0), -9);
        due.is("from 1 on", x.saved(0, 1), 101);
        x.cue(1, 98, 1);
        due.is("the car goes at 99, late at 100", x.saved(0, 0), 100);
        x.cue(1, 599, 0);
        due.is("the car goes at 600", x.saved(0, 590), 600);
        x.cue(1, 599, 1);
        due.is("late it would go at 601, which is as 600", x.saved(0, 590), -9);
        x.cue(1, 600, 0);
        due.is("it does not go any more", x.saved(0, 600), -9);
    }

    private static void aborts() {
        StuntSet x = new StuntSet();
        for (int i = 0; i < 6; i++) {
            x.mover(0, i % 4, 200 + i, 0, 0);
        }
        due.is("all lost", x.abort(0), 6);
        x.safe(200, true);
        due.is("none", x.abort(600), 0);
        x.mover(1, 0, 202, 0, 0);
        due.is("those near the car", x.abort(0), 3);
        due.is("saved(0, 0)", x.saved(0, 0), 0);
        due.is("saved(1, 0)", x.saved(1, 0), -9);
        due.is("saved(4, 0)", x.saved(4, 0), 16);
        x.cover(201, true);
        due.is("cars do not count", x.abort(0), 3);
    }

    private static void refusals() {
        StuntSet x = new StuntSet();
        x.mover(1, 0, 0, 0, 0);
        x.mover(0, 0, 9, 0, 0);
        due.is("abort(-1)", x.abort(-1), -4);
        due.is("abort(601)", x.abort(601), -6);
        due.is("abort(600)", x.abort(600), 1);
        due.is("no mover", x.saved(2, -1), -1);
        due.is("mover -1", x.saved(-1, 0), -1);
        due.is("car", x.saved(0, -1), -2);
        due.is("tenth -1", x.saved(1, -1), -4);
        due.is("tenth 601", x.saved(1, 601), -6);
        due.refused(x, 2, 1, 0, 2, 2);
    }
}
