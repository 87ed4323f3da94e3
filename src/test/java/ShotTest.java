/** Promises 28 to 31: shot, best, put, judge. */
public final class ShotTest {
    private static final Due due = new Due();

    public static void main(String[] args) {
        refusals();
        mostShots();
        leastRisk();
        soonest();
        firstByNumbers();
        windows();
        rows();
        judged();
        due.end("ShotTest");
    }

    private static void refusals() {
        StuntSet x = new StuntSet();
        due.is("double -1", x.shot(-1, 0, -1, -1, -1, -1), -1);
        due.is("double 4", x.shot(4, 1, 0, 0, 0, 0), -1);
        due.is("minutes 0", x.shot(0, 0, 1000, 1000, 1000, 100), -4);
        due.is("from -1", x.shot(0, 301, -1, 0, 0, 0), -4);
        due.is("to -1", x.shot(0, 301, 0, -1, 0, 0), -4);
        due.is("to ahead of from", x.shot(0, 301, 1001, 1000, 0, 0), -4);
        due.is("risk -1", x.shot(0, 301, 0, 0, -1, 0), -4);
        due.is("tired -1", x.shot(0, 301, 0, 0, 0, -1), -4);
        due.is("minutes 301", x.shot(0, 301, 0, 0, 0, 0), -6);
        due.is("from 1000", x.shot(0, 1, 1000, 1000, 0, 0), -6);
        due.is("to 1000", x.shot(0, 1, 0, 1000, 0, 0), -6);
        due.is("risk 1000", x.shot(0, 1, 0, 0, 1000, 0), -6);
        due.is("tired 100", x.shot(0, 1, 0, 0, 0, 100), -6);
        due.is("best(-1)", x.best(-1), -2);
        due.is("best(9)", x.best(9), -2);
        due.is("best(8)", x.best(8), -9);
        due.is("best(0) without shots", x.best(0), 0);
        due.is("best(1) without shots", x.best(1), 0);
        due.is("best(2) without shots", x.best(2), -9);
        due.is("count(5)", x.count(5), 0);
        due.refused(x, 2, 2, 0, 6, 5);
    }

    private static void mostShots() {
        StuntSet x = new StuntSet();
        for (int i = 0; i < 7; i++) {
            due.is("shot " + i, x.shot(3, 1, 0, 999, 999, 99), i);
        }
        due.is("shot 7", x.shot(0, 1, 0, 0, 0, 0), -6);
        due.is("shot 7, below", x.shot(0, 0, 0, 0, 0, 0), -4);
        due.is("count(5)", x.count(5), 7);
        due.is("best(0)", x.best(0), 7 * 999 + 21 * 99);
        due.is("best(1)", x.best(1), 7);
        for (int i = 0; i < 7; i++) {
            due.is("best(" + (2 + i) + ")", x.best(2 + i), i);
        }
        due.is("best(9)", x.best(9), -2);
    }

    private static void leastRisk() {
        StuntSet x = new StuntSet();
        x.shot(0, 10, 0, 999, 5, 7);
        x.shot(0, 10, 0, 999, 5, 9);
        x.shot(1, 10, 0, 999, 5, 50);
        due.is("1 ahead of 0: 15 and 7", x.best(0), 22);
        due.is("ends", x.best(1), 30);
        due.is("best(2)", x.best(2), 1);
        due.is("best(3)", x.best(3), 0);
        due.is("best(4)", x.best(4), 2);
        due.is("best(5)", x.best(5), -9);
        x.shot(0, 10, 0, 999, 1, 20);
        due.is("3, 1, 0: 16 and 9 and 14", x.best(0), 39);
        due.is("best(2)", x.best(2), 2);
        due.is("best(3)", x.best(3), 3);
        due.is("best(4)", x.best(4), 1);
        due.is("best(5)", x.best(5), 0);
    }

    private static void soonest() {
        StuntSet x = new StuntSet();
        x.shot(0, 10, 50, 999, 5, 0);
        x.shot(1, 40, 0, 999, 5, 0);
        due.is("risk", x.best(0), 10);
        due.is("1 ahead of 0 ends at 60, not 100", x.best(1), 60);
        due.is("best(2)", x.best(2), 1);
        due.is("best(3)", x.best(3), 0);
        StuntSet y = new StuntSet();
        y.shot(0, 10, 50, 999, 5, 0);
        y.shot(0, 40, 0, 999, 5, 1);
        due.is("less risk goes first", y.best(0), 10);
        due.is("though 0 ahead of 1 ends at 60 if 1 were first", y.best(1), 60);
        StuntSet z = new StuntSet();
        z.shot(0, 10, 50, 999, 5, 3);
        z.shot(0, 40, 0, 999, 5, 1);
        due.is("0 ahead of 1: 11", z.best(0), 11);
        due.is("and later", z.best(1), 100);
        due.is("best(2)", z.best(2), 0);
        StuntSet w = new StuntSet();
        w.shot(0, 40, 0, 999, 5, 0);
        w.shot(1, 10, 50, 999, 5, 0);
        due.is("0 ahead of 1 ends at 60, and the later order at 100", w.best(1), 60);
        due.is("best(2)", w.best(2), 0);
        due.is("best(3)", w.best(3), 1);
    }

    private static void firstByNumbers() {
        StuntSet x = new StuntSet();
        x.shot(0, 10, 0, 999, 0, 0);
        x.shot(1, 20, 0, 20, 0, 0);
        x.shot(2, 30, 0, 999, 0, 0);
        x.shot(3, 5, 0, 999, 0, 0);
        due.is("ends", x.best(1), 65);
        int[] want = {1, 0, 2, 3};
        for (int i = 0; i < 4; i++) {
            due.is("best(" + (2 + i) + ")", x.best(2 + i), want[i]);
        }
    }

    private static void windows() {
        StuntSet x = new StuntSet();
        x.shot(0, 30, 100, 130, 4, 0);
        due.is("begins at from and ends at to", x.best(0), 4);
        due.is("ends", x.best(1), 130);
        x.shot(0, 70, 130, 200, 4, 0);
        due.is("begins as the one ahead ends", x.best(1), 200);
        x.shot(0, 1, 0, 100, 4, 0);
        due.is("ahead of all", x.best(2), 2);
        x.shot(1, 30, 500, 529, 4, 0);
        due.is("does not fit at all", x.best(0), -9);
        due.is("no order", x.best(1), -9);
        due.is("no order", x.best(2), -9);
        StuntSet y = new StuntSet();
        y.shot(0, 300, 0, 999, 0, 0);
        y.shot(0, 300, 0, 999, 0, 0);
        y.shot(0, 300, 0, 999, 0, 0);
        due.is("900", y.best(1), 900);
        y.shot(0, 99, 0, 999, 0, 0);
        due.is("999", y.best(1), 999);
        y.shot(0, 1, 0, 999, 0, 0);
        due.is("1000", y.best(1), -9);
        StuntSet z = new StuntSet();
        due.is("the greatest of all", z.shot(3, 300, 999, 999, 999, 99), 0);
        due.is("it can not end in time", z.best(0), -9);
    }

    private static void rows() {
        StuntSet x = new StuntSet();
        due.is("put(-129)", x.put(-129), -4);
        due.is("put(128)", x.put(128), -6);
        for (int i = 1; i <= 12; i++) {
            due.is("put", x.put(i % 2 == 0 ? 127 : -128), i);
        }
        due.is("13", x.put(0), -6);
        due.is("13, below", x.put(-129), -4);
        due.is("count(10)", x.count(10), 12);
        due.is("judge()", x.judge(), 0);
        due.is("count(10)", x.count(10), 0);
        due.is("put(0)", x.put(0), 1);
        due.refused(x, 0, 0, 0, 2, 2);
    }

    private static int judge(StuntSet x, int... row) {
        for (int v : row) {
            x.put(v);
        }
        return x.judge();
    }

    private static void judged() {
        StuntSet x = new StuntSet();
        due.is("no shots, none put", judge(x), -9);
        due.is("no shots, one put", judge(x, 0), 0);
        x.shot(0, 60, 0, 120, 5, 10);
        x.shot(0, 60, 0, 200, 5, 10);
        x.shot(1, 60, 120, 200, 5, 10);
        due.is("one", judge(x, 0, 1, 2), -9);
        due.is("another", judge(x, 1, 0, 2), -9);
        due.is("too few", judge(x, 1, 0), 2);
        due.is("too few: none", judge(x), 0);
        due.is("too many", judge(x, 0, 1, 2, 0), 3);
        due.is("too many: no shot", judge(x, 0, 1, 2, 3, 4), 3);
        due.is("no shot", judge(x, 0, 3, 2), 1);
        due.is("below", judge(x, 0, 1, -1), 2);
        due.is("-128", judge(x, -128), 0);
        due.is("32 is no shot 0", judge(x, 32, 1, 2), 0);
        due.is("twice", judge(x, 1, 1, 2), 1);
        due.is("2 first: 180, 1 too late", judge(x, 2, 1, 0), 1);
        due.is("0 ends at 120", judge(x, 1, 0, 2), -9);
        due.is("1 waits behind 2: 0, 2, 1 ends at 240", judge(x, 0, 2, 1), 2);
        due.is("the first wrong place", judge(x, 0, 2, 1, 9), 2);
        due.is("count(10)", x.count(10), 0);
    }
}
