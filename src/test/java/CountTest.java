/** Promise 42: count; and that a refused call changes nothing but how many there were. */
public final class CountTest {
    private static final Due due = new Due();

    public static void main(String[] args) {
        counts();
        others();
        refusedChangesNothing();
        everyRefusalIsCounted();
        due.end("CountTest");
    }

    private static StuntSet full() {
        StuntSet x = new StuntSet();
        x.mover(0, 0, 0, 0, 0);
        x.mover(1, 0, 399, 0, 0);
        x.camera(0, 0, 0, 1, 0, 0);
        x.camera(1, 0, 0, 1, 0, 0);
        x.camera(2, 0, 0, 1, 0, 0);
        x.feed(3, 0x313D31);
        x.text(0);
        for (int i = 0; i < 5; i++) {
            x.take();
        }
        for (int i = 0; i < 6; i++) {
            x.ramp(1, 1, 1, 1);
        }
        for (int i = 0; i < 7; i++) {
            x.shot(0, 1, 0, 999, 0, 0);
        }
        for (int i = 0; i < 9; i++) {
            x.run(0, 1, 1);
        }
        x.takeBack(3);
        for (int i = 0; i < 10; i++) {
            x.plan(0, 1, 1);
        }
        x.days(11);
        x.feed(8, 0);
        x.feed(4, 0);
        x.put(0);
        x.put(1);
        for (int i = 0; i < 13; i++) {
            x.safe(3 * i, true);
        }
        return x;
    }

    private static final int[] FULL = {2, 3, 1, 5, 6, 7, 8, 10, 11, 12, 2, 0, 0, 0, 0, 0, 0, 13};

    private static void counts() {
        StuntSet x = full();
        for (int what = 0; what <= 17; what++) {
            due.is("count(" + what + ")", x.count(what), FULL[what]);
        }
    }

    private static void others() {
        StuntSet x = new StuntSet();
        due.is("count(-1)", x.count(-1), -9);
        due.is("count(18)", x.count(18), -9);
        due.is("count(MIN)", x.count(Integer.MIN_VALUE), -9);
        due.is("count(MAX)", x.count(Integer.MAX_VALUE), -9);
        due.refused(x, 0, 0, 0, 0, 0);
    }

    /** Every call that can be refused, refused with numbers far off. */
    private static int refuse(StuntSet x, int n) {
        x.cover(n, true);
        x.safe(n, true);
        x.mover(n, 0, 0, 0, 0);
        x.leg(n, 0, 1, 1, 0);
        x.leg(0, n, 1, 1, 0);
        x.cue(n, 0, 0);
        x.cue(0, n, 0);
        x.place(n, 0, 0);
        x.hit(n, 0);
        x.firstHit(n);
        x.stride(n);
        x.danger(n, 0, 0);
        x.abort(n);
        x.saved(0, n);
        x.camera(0, n, 0, 1, 0, 0);
        x.sees(n, 0);
        x.quarrels(n);
        x.picture(0, n);
        x.tell(0, n);
        x.feed(n, 0);
        x.text(n);
        x.lets(n);
        x.ramp(1, 1, 1, n);
        x.lands(0, n);
        x.speeds(0, n);
        x.bags(n, 1);
        x.fire(0, n, 0, 0);
        x.shot(0, n, 0, 0, 0, 0);
        x.best(n);
        x.put(n);
        x.marks(0, n);
        x.matched(n);
        x.days(n);
        x.run(0, 1, n);
        x.takeBack(n);
        x.grip(0, n);
        x.stop(0, n, 0);
        x.plan(0, 1, n);
        x.good(0, n);
        return 39;
    }

    private static void refusedChangesNothing() {
        StuntSet x = full();
        int refused = refuse(x, Integer.MIN_VALUE) + refuse(x, Integer.MAX_VALUE);
        for (int what = 0; what <= 17; what++) {
            if (what < 11 || what > 16) {
                due.is("count(" + what + ") as before", x.count(what), FULL[what]);
            }
        }
        int counted = 0;
        for (int what = 11; what <= 16; what++) {
            counted += x.count(what);
        }
        due.is("refusals counted", counted, refused);
        due.is("stride as before", x.stride(4), 4);
        due.is("wind as before", x.tell(0, 0), 0);
        due.is("marks as before", x.marks(0, -1), -1);
        due.is("cue as before", x.cue(0, 0, 0), 0);
        due.is("place as before", x.place(1, 600, 0), 399);
        due.is("go is let as before", x.lets(0), 1);
    }

    private static void everyRefusalIsCounted() {
        StuntSet x = new StuntSet();
        x.matched(9);
        x.best(9);
        x.best(10);
        x.take();
        x.take();
        x.take();
        x.days(0);
        x.days(0);
        x.days(0);
        x.days(0);
        x.put(128);
        x.put(128);
        x.put(128);
        x.put(128);
        x.put(128);
        due.refused(x, 1, 2, 3, 4, 5);
        x.marks(8, 0);
        x.marks(0, -2);
        x.marks(0, -2);
        x.marks(0, 100000);
        x.marks(0, 100000);
        x.marks(0, 100000);
        due.refused(x, 2, 2, 3, 6, 8);
    }
}
