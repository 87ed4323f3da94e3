/** Promises 34 to 41: days, run, takeBack, grip, stop, plan, good, overtaken. */
public final class RunTest {
    private static final Due due = new Due();

    public static void main(String[] args) {
        days();
        runRefusals();
        mostRuns();
        grips();
        knownAndTakenBack();
        stops();
        plans();
        overtaken();
        due.end("RunTest");
    }

    private static void days() {
        StuntSet x = new StuntSet();
        due.is("days(0)", x.days(0), -4);
        due.is("days(-1)", x.days(-1), -4);
        due.is("days(1000)", x.days(1000), -6);
        due.is("days(MAX)", x.days(Integer.MAX_VALUE), -6);
        due.is("days(998)", x.days(998), 998);
        due.is("days(2)", x.days(2), -6);
        due.is("days(MAX)", x.days(Integer.MAX_VALUE), -6);
        due.is("days(1)", x.days(1), 999);
        due.is("days(1)", x.days(1), -6);
        due.is("count(8)", x.count(8), 999);
        due.refused(x, 0, 0, 0, 2, 5);
        StuntSet y = new StuntSet();
        due.is("days(999)", y.days(999), 999);
    }

    private static void runRefusals() {
        StuntSet x = new StuntSet();
        due.is("ground -1", x.run(-1, 0, 0), -1);
        due.is("ground 4", x.run(4, 1, 1), -1);
        due.is("speed 0", x.run(0, 0, 10000), -4);
        due.is("stop 0", x.run(0, 100, 0), -4);
        due.is("speed 100", x.run(0, 100, 1), -6);
        due.is("stop 10000", x.run(0, 1, 10000), -6);
        due.is("count(6)", x.count(6), 0);
        due.is("takeBack(0)", x.takeBack(0), -1);
        due.is("run", x.run(3, 99, 9999), 0);
        due.is("takeBack(-1)", x.takeBack(-1), -1);
        due.is("takeBack(1)", x.takeBack(1), -1);
        due.is("takeBack(0)", x.takeBack(0), 1);
        due.is("takeBack(0) again", x.takeBack(0), -3);
        due.is("grip(-1, -1)", x.grip(-1, -1), -1);
        due.is("grip(4, 0)", x.grip(4, 0), -1);
        due.is("grip(0, -1)", x.grip(0, -1), -4);
        due.is("grip(0, 1000)", x.grip(0, 1000), -6);
        due.is("stop(4, 0, -1)", x.stop(4, 0, -1), -1);
        due.is("stop(0, 0, 1000)", x.stop(0, 0, 1000), -4);
        due.is("stop(0, 100, -1)", x.stop(0, 100, -1), -4);
        due.is("stop(0, 100, 0)", x.stop(0, 100, 0), -6);
        due.is("stop(0, 1, 1000)", x.stop(0, 1, 1000), -6);
        due.refused(x, 8, 0, 1, 5, 5);
    }

    private static void mostRuns() {
        StuntSet x = new StuntSet();
        for (int i = 0; i < 60; i++) {
            due.is("run " + i, x.run(0, 99, 9999), i);
        }
        due.is("run 60", x.run(0, 1, 1), -6);
        due.is("run 60, below", x.run(0, 1, 0), -4);
        due.is("count(6)", x.count(6), 60);
        due.is("grip", x.grip(0, 0), 9);
        for (int i = 0; i < 60; i += 2) {
            x.takeBack(i);
        }
        due.is("count(6)", x.count(6), 30);
        due.is("no room though some are taken back", x.run(0, 1, 1), -6);
    }

    private static void grips() {
        StuntSet x = new StuntSet();
        due.is("without runs", x.grip(0, 0), 20);
        x.run(1, 10, 7);
        due.is("of another ground", x.grip(0, 0), 20);
        due.is("1000 by 7", x.grip(1, 0), 142);
        x.run(1, 1, 9999);
        due.is("1010 by 10006: 1 at least", x.grip(1, 0), 1);
        x.run(3, 99, 1);
        due.is("98010 by 1", x.grip(3, 0), 98010);
        x.run(3, 3, 4);
        due.is("98100 by 5, of the sums", x.grip(3, 0), 19620);
        due.is("ground 2", x.grip(2, 999), 20);
    }

    private static void knownAndTakenBack() {
        StuntSet x = new StuntSet();
        x.days(3);
        x.run(0, 10, 100);
        x.days(2);
        x.run(0, 10, 300);
        due.is("on 2", x.grip(0, 2), 20);
        due.is("on 3", x.grip(0, 3), 10);
        due.is("on 4", x.grip(0, 4), 10);
        due.is("on 5", x.grip(0, 5), 5);
        due.is("on 999", x.grip(0, 999), 5);
        x.days(4);
        due.is("taken back on 9", x.takeBack(0), 1);
        due.is("on 3", x.grip(0, 3), 10);
        due.is("on 8", x.grip(0, 8), 5);
        due.is("on 9", x.grip(0, 9), 3);
        due.is("on 10", x.grip(0, 10), 3);
        due.is("count(6)", x.count(6), 1);
        x.run(1, 10, 100);
        x.takeBack(2);
        due.is("known and taken back on one day", x.grip(1, 9), 20);
        due.is("count(6)", x.count(6), 1);
        x.takeBack(1);
        due.is("none left", x.grip(0, 9), 20);
        due.is("count(6)", x.count(6), 0);
        due.is("taken back twice", x.takeBack(1), -3);
        due.is("still on 8", x.grip(0, 8), 5);
    }

    private static void stops() {
        StuntSet x = new StuntSet();
        due.is("10 by 20, cut up", x.stop(0, 1, 0), 1);
        due.is("40 by 20", x.stop(0, 2, 0), 2);
        due.is("90 by 20, cut up", x.stop(0, 3, 0), 5);
        due.is("98010 by 20, cut up", x.stop(3, 99, 999), 4901);
        x.run(1, 1, 9999);
        due.is("grip 1", x.stop(1, 99, 0), 98010);
        x.days(1);
        x.takeBack(0);
        due.is("as known on 0", x.stop(1, 99, 0), 98010);
        due.is("as known on 1", x.stop(1, 99, 1), 4901);
    }

    private static void plans() {
        StuntSet x = new StuntSet();
        due.is("ground -1", x.plan(-1, 0, 0), -1);
        due.is("ground 4", x.plan(4, 1, 1), -1);
        due.is("speed 0", x.plan(0, 0, 100000), -4);
        due.is("room 0", x.plan(0, 100, 0), -4);
        due.is("speed 100", x.plan(0, 100, 1), -6);
        due.is("room 100000", x.plan(0, 1, 100000), -6);
        due.is("good(0, 0)", x.good(0, -1), -1);
        due.is("count(7)", x.count(7), 0);
        for (int i = 0; i < 20; i++) {
            due.is("plan " + i, x.plan(i % 4, 10, 40 + i), i);
        }
        due.is("plan 20", x.plan(0, 1, 99999), -6);
        due.is("plan 20, below", x.plan(0, 1, 0), -4);
        due.is("count(7)", x.count(7), 20);
        due.is("none of 20 is overtaken", x.overtaken(), -9);
        due.is("room 49", x.good(9, 0), 0);
        due.is("room 50", x.good(10, 0), 1);
        due.is("room 51", x.good(11, 999), 1);
        due.is("good(20, 0)", x.good(20, 0), -1);
        due.is("good(-1, 0)", x.good(-1, 0), -1);
        due.is("good(0, -1)", x.good(0, -1), -4);
        due.is("good(0, 1000)", x.good(0, 1000), -6);
        due.refused(x, 5, 0, 0, 4, 4);
        x.days(1);
        x.run(2, 10, 51);
        due.is("room 50 on 0", x.good(10, 0), 1);
        due.is("room 50 on 1: 1000 by 19, cut up", x.good(10, 1), 0);
        due.is("room 54 on 1", x.good(14, 1), 1);
        due.is("another ground", x.good(11, 1), 1);
    }

    private static void overtaken() {
        StuntSet x = new StuntSet();
        due.is("no plans", x.overtaken(), -9);
        x.plan(0, 10, 49);
        x.plan(0, 10, 50);
        x.plan(1, 10, 50);
        x.plan(0, 10, 60);
        due.is("as planned", x.overtaken(), -9);
        x.days(1);
        x.run(0, 10, 100);
        due.is("the first was never good", x.overtaken(), 1);
        x.plan(0, 10, 60);
        x.run(1, 10, 51);
        due.is("still 1", x.overtaken(), 1);
        x.takeBack(0);
        due.is("the run is taken back", x.overtaken(), 2);
        x.takeBack(1);
        due.is("none", x.overtaken(), -9);
        StuntSet z = new StuntSet();
        due.is("the greatest of all", z.plan(3, 99, 99999), 0);
        due.is("good", z.good(0, 999), 1);
        z.plan(3, 99, 4901);
        z.days(1);
        z.run(3, 99, 9999);
        due.is("1, by a cell", z.overtaken(), 1);
        StuntSet w = new StuntSet();
        w.plan(0, 10, 50);
        w.plan(0, 10, 50);
        w.days(1);
        w.run(0, 10, 51);
        due.is("the first of two", w.overtaken(), 0);
        StuntSet y = new StuntSet();
        y.plan(0, 10, 50);
        y.run(0, 10, 100);
        due.is("on the same day it is not good as known then", y.overtaken(), -9);
        y.days(1);
        y.takeBack(0);
        due.is("better now is not overtaken", y.overtaken(), -9);
        y.plan(0, 10, 50);
        y.days(1);
        y.run(0, 10, 100);
        due.is("1 was good on 1", y.overtaken(), 1);
    }
}
