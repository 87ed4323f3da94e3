/** Promises 14 to 17: camera, sees, quarrels, picture. */
public final class CameraTest {
    private static final Due due = new Due();

    public static void main(String[] args) {
        refusals();
        mostCameras();
        reaches();
        wides();
        directions();
        coverHides();
        everyCellBetween();
        quarrels();
        pictures();
        due.end("CameraTest");
    }

    private static void refusals() {
        StuntSet x = new StuntSet();
        due.is("cell -1", x.camera(-1, 9, -1, 0, -1, -1), -1);
        due.is("cell 400", x.camera(400, 0, 0, 1, 0, 0), -1);
        due.is("direction 8", x.camera(0, 8, -1, 0, -1, -1), -2);
        due.is("direction -1", x.camera(0, -1, 0, 1, 0, 0), -2);
        due.is("wide -1", x.camera(0, 0, -1, 20, 601, 601), -4);
        due.is("reach 0", x.camera(0, 0, 3, 0, 0, 0), -4);
        due.is("from -1", x.camera(0, 0, 3, 20, -1, 601), -4);
        due.is("to -1", x.camera(0, 0, 0, 1, 0, -1), -4);
        due.is("to ahead of from", x.camera(0, 0, 3, 20, 602, 601), -4);
        due.is("wide 3", x.camera(0, 0, 3, 1, 0, 0), -6);
        due.is("reach 20", x.camera(0, 0, 0, 20, 0, 0), -6);
        due.is("to 601", x.camera(0, 0, 0, 1, 0, 601), -6);
        due.is("from 601", x.camera(0, 0, 0, 1, 601, 601), -6);
        due.is("count(1)", x.count(1), 0);
        due.is("sees none", x.sees(0, 0), -1);
        due.is("picture none", x.picture(0, -1), -1);
        due.is("camera", x.camera(399, 7, 2, 19, 600, 600), 0);
        due.is("sees(0, 400)", x.sees(0, 400), -1);
        due.is("sees(0, -1)", x.sees(0, -1), -1);
        due.is("sees(1, 0)", x.sees(1, 0), -1);
        due.is("sees(-1, 0)", x.sees(-1, 0), -1);
        due.is("picture(1, 0)", x.picture(1, 0), -1);
        due.is("picture(-1, 0)", x.picture(-1, 0), -1);
        due.is("picture(0, -1)", x.picture(0, -1), -4);
        due.is("picture(0, 601)", x.picture(0, 601), -6);
        due.is("quarrels(-1)", x.quarrels(-1), -2);
        due.is("quarrels(3)", x.quarrels(3), -2);
        due.refused(x, 10, 4, 0, 6, 5);
    }

    private static void mostCameras() {
        StuntSet x = new StuntSet();
        for (int i = 0; i < 8; i++) {
            due.is("camera " + i, x.camera(i, 0, 0, 1, 0, 600), i);
        }
        due.is("camera 8", x.camera(0, 0, 0, 1, 0, 0), -6);
        due.is("camera 8, below", x.camera(0, 0, 0, 0, 0, 0), -4);
        due.is("count(1)", x.count(1), 8);
        due.is("sees(7, 8)", x.sees(7, 8), 1);
        due.is("sees(8, 9)", x.sees(8, 9), -1);
        due.is("picture(8, 0)", x.picture(8, 0), -1);
        due.is("quarrels(0)", x.quarrels(0), 7);
        due.is("quarrels(1)", x.quarrels(1), 0);
        due.is("quarrels(2)", x.quarrels(2), 1);
    }

    private static void reaches() {
        StuntSet x = new StuntSet();
        x.camera(100, 0, 0, 5, 0, 0);
        due.is("its own", x.sees(0, 100), 0);
        due.is("far 1", x.sees(0, 101), 1);
        due.is("far 5", x.sees(0, 105), 1);
        due.is("far 6", x.sees(0, 106), 0);
        x.camera(0, 1, 0, 19, 0, 0);
        due.is("far 19 by a corner", x.sees(1, 399), 1);
    }

    private static void wides() {
        StuntSet x = new StuntSet();
        x.camera(200, 0, 0, 19, 0, 0);
        x.camera(200, 0, 1, 19, 0, 0);
        x.camera(200, 0, 2, 19, 0, 0);
        due.is("wide 0 straight", x.sees(0, 219), 1);
        due.is("wide 0 one off", x.sees(0, 239), 0);
        due.is("wide 1: 2 on, 1 across", x.sees(1, 222), 1);
        due.is("wide 1: 1 on, 1 across", x.sees(1, 221), 0);
        due.is("wide 1: 3 on, 2 across", x.sees(1, 243), 0);
        due.is("wide 1: 4 on, 2 across the other way", x.sees(1, 164), 1);
        due.is("wide 2: 1 on, 1 across", x.sees(2, 221), 1);
        due.is("wide 2: 1 on, 2 across", x.sees(2, 241), 0);
        due.is("wide 2: along 0", x.sees(2, 220), 0);
        x.camera(210, 2, 2, 19, 0, 0);
        due.is("behind it", x.sees(3, 190), 0);
        due.is("before it", x.sees(3, 230), 1);
    }

    private static void directions() {
        int[] beside = {211, 231, 230, 229, 209, 189, 190, 191};
        for (int d = 0; d < 8; d++) {
            StuntSet x = new StuntSet();
            x.camera(210, d, 0, 1, 0, 0);
            for (int e = 0; e < 8; e++) {
                due.is("by " + d + " beside by " + e, x.sees(0, beside[e]), d == e ? 1 : 0);
            }
        }
    }

    private static void coverHides() {
        StuntSet x = new StuntSet();
        x.camera(210, 0, 2, 19, 0, 0);
        x.cover(210, true);
        x.cover(213, true);
        due.is("its own cover hides nothing", x.sees(0, 212), 1);
        due.is("cover is seen itself", x.sees(0, 213), 1);
        due.is("behind it", x.sees(0, 214), 0);
        // dx 4, dy 1: i = 2 is y 0 and 8 by 8: one more row; dx 4, dy -1: i = 2 is 0, i = 3 is -1.
        due.is("half is cut down to more: 232", x.sees(0, 234), 1);
        x.cover(232, true);
        due.is("i 2 of 4 at 232", x.sees(0, 234), 0);
        x.cover(232, false);
        x.cover(213, false);
        x.cover(192, true);
        due.is("i 2 of 4 upwards is not at 192", x.sees(0, 194), 1);
        x.cover(192, false);
        x.cover(212, true);
        due.is("but at 212", x.sees(0, 194), 0);
        x.cover(212, false);
        x.camera(210, 4, 2, 19, 0, 0);
        x.cover(188, true);
        due.is("to the left: dx -4, dy -1, i 2 at 208", x.sees(1, 186), 1);
        x.cover(208, true);
        due.is("hidden at 208", x.sees(1, 186), 0);
        x.camera(210, 6, 2, 19, 0, 0);
        // dx -1, dy -4: i = 2 is x 0 and (-4 and 4) by 8: 0.
        x.cover(170, true);
        due.is("up: dx -1, dy -4, i 2 at 170", x.sees(2, 129), 0);
        x.cover(170, false);
        x.cover(169, true);
        due.is("not at 169", x.sees(2, 129), 1);
    }

    /** Cover in any of the cells between hides, straight down and up, and in no other of that line. */
    private static void everyCellBetween() {
        for (int i = 1; i <= 19; i++) {
            StuntSet x = new StuntSet();
            x.camera(7, 2, 0, 19, 0, 0);
            x.camera(380 + 7, 6, 0, 19, 0, 0);
            x.cover(20 * i + 7, true);
            for (int y = 1; y <= 19; y++) {
                due.is("down to " + y + " with cover at " + i, x.sees(0, 20 * y + 7), y > i ? 0 : 1);
            }
            for (int y = 0; y <= 18; y++) {
                due.is("up to " + y + " with cover at " + i, x.sees(1, 20 * y + 7), i < 19 && y < i ? 0 : 1);
            }
        }
    }

    private static void quarrels() {
        StuntSet x = new StuntSet();
        x.camera(0, 0, 0, 19, 5, 10);
        x.camera(5, 0, 0, 1, 11, 20);
        due.is("never on together", x.quarrels(0), 0);
        x.camera(6, 0, 0, 1, 10, 11);
        due.is("at 10 and at 11", x.quarrels(0), 2);
        due.is("the first two: 0", x.quarrels(1), 0);
        due.is("the first two: 2", x.quarrels(2), 2);
        x.camera(0, 0, 0, 19, 0, 600);
        due.is("the same cell is not seen; 3 sees 1 and 2", x.quarrels(0), 4);
        x.cover(5, true);
        due.is("cover between 0 or 3 and 2", x.quarrels(0), 2);
        due.is("the first two: 1", x.quarrels(1), 1);
        due.is("the first two: 2", x.quarrels(2), 2);
        x.cover(1, true);
        x.cover(5, false);
        due.is("one is left", x.quarrels(0), 1);
        StuntSet y = new StuntSet();
        y.camera(5, 0, 0, 1, 0, 600);
        y.camera(19, 4, 0, 19, 0, 0);
        due.is("the other sees the one", y.quarrels(0), 1);
        due.is("lesser", y.quarrels(1), 0);
        due.is("other", y.quarrels(2), 1);
        y.cover(10, true);
        due.is("none", y.quarrels(1), -9);
        due.is("none", y.quarrels(2), -9);
    }

    private static void pictures() {
        StuntSet x = new StuntSet();
        x.camera(100, 0, 0, 19, 10, 20);
        due.is("nobody", x.picture(0, 10), 0);
        for (int i = 0; i < 12; i++) {
            x.mover(i % 2, 0, 101 + i, 15, 9);
        }
        due.is("not on yet", x.picture(0, 9), 0);
        due.is("on", x.picture(0, 10), 4095);
        due.is("on at last", x.picture(0, 20), 4095);
        due.is("no more", x.picture(0, 21), 0);
        x.leg(0, 2, 1, 1, 0);
        x.leg(11, 6, 1, 5, 0);
        due.is("0 leaves at 16", x.picture(0, 15), 4095);
        due.is("0 has left", x.picture(0, 16), 4094);
        due.is("11 leaves at 20", x.picture(0, 20), 2046);
        x.cover(105, true);
        due.is("hidden behind 105", x.picture(0, 10), 31);
        StuntSet y = new StuntSet();
        y.camera(0, 0, 0, 19, 0, 600);
        y.mover(0, 0, 0, 0, 0);
        due.is("in its own cell", y.picture(0, 0), 0);
        due.is("at 600", y.picture(0, 600), 0);
    }
}
