/** Promises 8 and 9: hit and firstHit. */
public final class HitTest {
    private static final Due due = new Due();

    public static void main(String[] args) {
        hits();
        edges();
        lates();
        bothLate();
        first();
        ties();
        refusals();
        due.end("HitTest");
    }

    private static void hits() {
        StuntSet x = new StuntSet();
        x.mover(0, 0, 10, 0, 0);
        x.mover(0, 2, 0, 3, 0);
        x.leg(1, 0, 19, 2, 0);
        due.is("two bodies hit: x is 8 at 3 and 16", x.hit(0, 1), 19);
        due.is("the other way round", x.hit(1, 0), 19);
        due.is("no car: no first hit", x.firstHit(0), -9);
        x.mover(0, 3, 399, 0, 0);
        due.is("never", x.hit(0, 2), -9);
    }

    private static void edges() {
        StuntSet x = new StuntSet();
        x.mover(1, 3, 0, 0, 0);
        x.mover(0, 3, 6, 0, 0);
        x.mover(0, 3, 7, 0, 0);
        x.mover(0, 3, 126, 0, 0);
        x.mover(0, 3, 147, 0, 0);
        due.is("far 6 with 3 and 3, at tenth 0", x.hit(0, 1), 0);
        due.is("far 7", x.hit(0, 2), -9);
        due.is("far 6 by a corner", x.hit(0, 3), 0);
        due.is("far 7 by a corner", x.hit(0, 4), -9);
        StuntSet y = new StuntSet();
        y.mover(1, 0, 0, 599, 0);
        y.leg(0, 0, 1, 1, 0);
        y.mover(0, 0, 1, 0, 0);
        due.is("the last tenth", y.hit(0, 1), 600);
        due.is("the last tenth is a first hit", y.firstHit(0), 600);
        y.cue(0, 600, 0);
        due.is("a tenth too late", y.hit(0, 1), -9);
        y.cue(0, 0, 0);
        y.cue(1, 600, 0);
        due.is("the first step of all, at 1, with one that goes much later", y.hit(0, 1), 1);
        due.is("the other way round", y.hit(1, 0), 1);
        y.cue(0, 50, 0);
        due.is("asked again behind another cue", y.firstHit(0), 51);
        y.mover(0, 0, 2, 0, 0);
        due.is("no further yet", y.hit(0, 2), -9);
        y.leg(0, 0, 1, 4, 0);
        due.is("asked again behind another leg", y.hit(0, 2), 55);
    }

    /** The car passes a crossing that the body crosses later, unless one of them is late. */
    private static void lates() {
        StuntSet x = new StuntSet();
        x.mover(1, 0, 105, 0, 0);
        x.leg(0, 0, 10, 1, 0);
        x.mover(0, 0, 10, 3, 0);
        x.leg(1, 2, 10, 1, 0);
        due.is("car at 110 at 5, body at 8", x.hit(0, 1), -9);
        x.cue(0, 0, 2);
        due.is("car late by 2", x.hit(0, 1), -9);
        x.cue(0, 0, 3);
        due.is("car late by 3", x.hit(0, 1), 8);
        x.cue(0, 5, 0);
        due.is("car at 10, body at 8", x.hit(0, 1), -9);
        x.cue(1, 3, 1);
        due.is("body late by 1", x.hit(0, 1), -9);
        x.cue(1, 3, 2);
        due.is("body late by 2", x.hit(1, 0), 10);
    }

    /** One that is late to leave is still there when the other comes. */
    private static void bothLate() {
        StuntSet x = new StuntSet();
        x.mover(0, 0, 5, 0, 9);
        x.leg(0, 2, 1, 1, 0);
        x.mover(1, 0, 0, 3, 0);
        x.leg(1, 0, 5, 1, 0);
        due.is("car at 5 at 8, body gone at 1 and up to 9", x.hit(0, 1), 8);
        x.cue(0, 0, 7);
        due.is("body gone at 8", x.hit(0, 1), -9);
        x.cue(1, 3, 9);
        due.is("a late car finds none", x.hit(0, 1), -9);
        x.cue(0, 0, 8);
        due.is("both with slips", x.hit(0, 1), 8);
    }

    private static void first() {
        StuntSet x = new StuntSet();
        for (int i = 0; i < 3; i++) {
            x.mover(0, 0, 100 + 5 * i, 0, 0);
        }
        x.mover(1, 0, 100, 2, 0);
        x.leg(3, 0, 12, 3, 0);
        due.is("firstHit(0)", x.firstHit(0), 0);
        due.is("firstHit(1)", x.firstHit(1), 0);
        due.is("firstHit(2)", x.firstHit(2), 3);
        StuntSet y = new StuntSet();
        y.mover(0, 0, 110, 0, 0);
        y.mover(1, 0, 100, 2, 0);
        y.leg(1, 0, 12, 3, 0);
        y.mover(0, 0, 105, 0, 0);
        y.mover(1, 0, 119, 0, 0);
        y.leg(3, 4, 5, 3, 0);
        due.is("least tenth of several", y.firstHit(0), 17);
        due.is("its mover", y.firstHit(1), 1);
        due.is("its other", y.firstHit(2), 2);
        y.cue(3, 0, 0);
        y.leg(3, 4, 4, 1, 0);
        due.is("a leg more: 114 at 15, 110 at 19", y.hit(0, 3), 19);
        due.is("two cars", y.hit(1, 3), 32);
    }

    private static void ties() {
        StuntSet x = new StuntSet();
        x.mover(0, 0, 5, 0, 0);
        x.mover(0, 0, 5, 0, 0);
        x.mover(1, 0, 0, 0, 0);
        x.leg(2, 0, 5, 2, 0);
        x.mover(1, 0, 10, 0, 0);
        x.leg(3, 4, 5, 2, 0);
        due.is("all at 10", x.firstHit(0), 10);
        due.is("least mover", x.firstHit(1), 0);
        due.is("least other that is a car", x.firstHit(2), 2);
        StuntSet y = new StuntSet();
        y.mover(0, 0, 399, 0, 0);
        y.mover(1, 0, 7, 0, 0);
        y.mover(1, 0, 7, 0, 0);
        y.mover(1, 0, 7, 0, 0);
        due.is("cars among themselves", y.firstHit(0), 0);
        due.is("least mover", y.firstHit(1), 1);
        due.is("least other", y.firstHit(2), 2);
    }

    private static void refusals() {
        StuntSet x = new StuntSet();
        due.is("hit without movers", x.hit(0, 1), -1);
        x.mover(0, 0, 0, 0, 0);
        x.mover(1, 0, 0, 0, 0);
        due.is("one twice", x.hit(1, 1), -1);
        due.is("no such first", x.hit(2, 0), -1);
        due.is("no such other", x.hit(0, 2), -1);
        due.is("below 0", x.hit(-1, 0), -1);
        due.is("what -1", x.firstHit(-1), -2);
        due.is("what 3", x.firstHit(3), -2);
        due.is("hit", x.hit(0, 1), 0);
        due.refused(x, 5, 2, 0, 0, 0);
        StuntSet y = new StuntSet();
        for (int what = 0; what <= 2; what++) {
            due.is("firstHit(" + what + ") of none", y.firstHit(what), -9);
        }
        due.is("what 3 though there is none", y.firstHit(3), -2);
    }
}
