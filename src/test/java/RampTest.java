/** Promises 23 to 27: ramp, lands, speeds, bags, fire. */
public final class RampTest {
    private static final Due due = new Due();

    public static void main(String[] args) {
        rampRefusals();
        mostRamps();
        flights();
        speeds();
        bags();
        fires();
        due.end("RampTest");
    }

    private static void rampRefusals() {
        StuntSet x = new StuntSet();
        due.is("rise 0", x.ramp(0, 100, 1000, 1000), -4);
        due.is("run 0", x.ramp(100, 0, 1000, 1000), -4);
        due.is("gap 0", x.ramp(100, 100, 0, 1000), -4);
        due.is("length 0", x.ramp(100, 100, 1000, 0), -4);
        due.is("rise 100", x.ramp(100, 1, 1, 1), -6);
        due.is("run 100", x.ramp(1, 100, 1, 1), -6);
        due.is("gap 1000", x.ramp(1, 1, 1000, 1), -6);
        due.is("length 1000", x.ramp(1, 1, 1, 1000), -6);
        due.is("count(4)", x.count(4), 0);
        due.is("lands(0, 0)", x.lands(0, 0), -1);
        due.is("speeds(0, 3)", x.speeds(0, 3), -1);
        due.is("ramp", x.ramp(99, 99, 999, 999), 0);
        due.is("lands(-1, 1)", x.lands(-1, 1), -1);
        due.is("lands(1, 1)", x.lands(1, 1), -1);
        due.is("lands(0, 0)", x.lands(0, 0), -4);
        due.is("lands(0, 100)", x.lands(0, 100), -6);
        due.is("speeds(-1, 0)", x.speeds(-1, 0), -1);
        due.is("speeds(1, 0)", x.speeds(1, 0), -1);
        due.is("speeds(0, -1)", x.speeds(0, -1), -2);
        due.is("speeds(0, 3)", x.speeds(0, 3), -2);
        due.refused(x, 6, 2, 0, 5, 5);
    }

    private static void mostRamps() {
        StuntSet x = new StuntSet();
        for (int i = 0; i < 8; i++) {
            due.is("ramp " + i, x.ramp(i + 1, 1, 1, 1), i);
        }
        due.is("ramp 8", x.ramp(1, 1, 1, 1), -6);
        due.is("ramp 8, below", x.ramp(1, 1, 1, 0), -4);
        due.is("count(4)", x.count(4), 8);
        due.is("lands(7, 1)", x.lands(7, 1), 9);
    }

    /** Flies tenth by tenth. */
    private static int flight(int rise, int run, int v) {
        int up = v * rise / run;
        int height = 0;
        int tenths = 0;
        do {
            height += up;
            up -= 2;
            tenths++;
        } while (height > 0);
        return v * tenths;
    }

    private static void flights() {
        int[][] ramps = {{1, 2}, {1, 1}, {99, 1}, {1, 99}, {7, 3}, {3, 7}, {50, 99}, {99, 98}};
        StuntSet x = new StuntSet();
        for (int i = 0; i < ramps.length; i++) {
            x.ramp(ramps[i][0], ramps[i][1], 1, 1);
            for (int v = 1; v <= 99; v += v < 10 ? 1 : 8) {
                due.is("lands(" + i + ", " + v + ")", x.lands(i, v), flight(ramps[i][0], ramps[i][1], v));
            }
        }
        due.is("the farthest", x.lands(2, 99), 99 * 9802);
        due.is("flat", x.lands(3, 98), 98);
    }

    private static void speeds() {
        StuntSet x = new StuntSet();
        x.ramp(1, 1, 6, 14);
        due.is("2 lands at 6, 3 at 12, 4 at 20", x.speeds(0, 0), 3);
        due.is("least at the gap", x.speeds(0, 1), 2);
        due.is("greatest at the landing's end", x.speeds(0, 2), 4);
        x.ramp(1, 1, 7, 12);
        due.is("7 .. 19", x.speeds(1, 0), 1);
        due.is("3", x.speeds(1, 1), 3);
        due.is("3", x.speeds(1, 2), 3);
        x.ramp(1, 1, 7, 4);
        due.is("7 .. 11", x.speeds(2, 0), 0);
        due.is("none", x.speeds(2, 1), -9);
        due.is("none", x.speeds(2, 2), -9);
        x.ramp(1, 99, 1, 999);
        due.is("all", x.speeds(3, 0), 99);
        due.is("1", x.speeds(3, 1), 1);
        due.is("99", x.speeds(3, 2), 99);
        x.ramp(1, 50, 60, 30);
        due.is("60 of 49 is 98: 50 .. 99 land double", x.speeds(4, 0), 0);
        x.ramp(1, 50, 40, 65);
        due.is("40 .. 49, 50 .. 52", x.speeds(5, 0), 13);
        due.is("40", x.speeds(5, 1), 40);
        due.is("52", x.speeds(5, 2), 52);
    }

    private static void bags() {
        StuntSet x = new StuntSet();
        due.is("bags(1, 1)", x.bags(1, 1), 10);
        due.is("bags(1, 10)", x.bags(1, 10), 1);
        due.is("bags(1, 11)", x.bags(1, 11), 1);
        due.is("bags(11, 10)", x.bags(11, 10), 11);
        due.is("bags(10, 99)", x.bags(10, 99), 2);
        due.is("bags(999, 1)", x.bags(999, 1), 9990);
        due.is("bags(999, 99)", x.bags(999, 99), 101);
        due.is("bags(0, 100)", x.bags(0, 100), -4);
        due.is("bags(1000, 0)", x.bags(1000, 0), -4);
        due.is("bags(1000, 1)", x.bags(1000, 1), -6);
        due.is("bags(1, 100)", x.bags(1, 100), -6);
        due.refused(x, 0, 0, 0, 2, 2);
    }

    private static void fires() {
        StuntSet x = new StuntSet();
        due.is("30 above 0", x.fire(1, 1, 0, 0), 1);
        due.is("0 not above 0", x.fire(0, 9, 0, 0), 0);
        due.is("3 above 1 and 1", x.fire(1, 9, 1, 0), 1);
        due.is("3 not above 2 and 1", x.fire(1, 9, 1, 1), 0);
        due.is("4 above 2 and 1: 30 by 7, cut", x.fire(1, 7, 1, 1), 1);
        due.is("4 not above 3 and 1", x.fire(1, 7, 3, 0), 0);
        due.is("a tenth of both together: 5 and 5", x.fire(2, 5, 5, 5), 1);
        due.is("12 not above 11 and 2", x.fire(2, 5, 5, 6), 0);
        due.is("90 above 81 and 9: no", x.fire(3, 1, 81, 0), 0);
        due.is("90 above 80 and 8", x.fire(3, 1, 40, 40), 1);
        due.is("2970 above 1998 and 200", x.fire(99, 1, 999, 999), 1);
        due.is("gel -1", x.fire(-1, 10, 1000, 1000), -4);
        due.is("heat 0", x.fire(100, 0, 0, 0), -4);
        due.is("burns -1", x.fire(100, 1, -1, 0), -4);
        due.is("out -1", x.fire(100, 1, 0, -1), -4);
        due.is("gel 100", x.fire(100, 1, 0, 0), -6);
        due.is("heat 10", x.fire(0, 10, 0, 0), -6);
        due.is("burns 1000", x.fire(0, 1, 1000, 0), -6);
        due.is("out 1000", x.fire(0, 1, 0, 1000), -6);
        due.refused(x, 0, 0, 0, 4, 4);
    }
}
