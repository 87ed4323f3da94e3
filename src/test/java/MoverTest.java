/** Promises 1 to 7: a new object, cover, safe, mover, leg, cue, place. */
public final class MoverTest {
    private static final Due due = new Due();

    public static void main(String[] args) {
        newObject();
        cells();
        moverRefusals();
        mostMovers();
        legs();
        legRefusals();
        mostLegs();
        everyDirection();
        cues();
        places();
        due.end("MoverTest");
    }

    /** COUNT 0; nothing is told: what every question is answered that can be asked then. */
    private static void newObject() {
        StuntSet x = new StuntSet();
        for (int what = 0; what <= 17; what++) {
            due.is("count(" + what + ") of a new object", x.count(what), 0);
        }
        due.is("cover(0, false)", x.cover(0, false), 0);
        due.is("safe(399, false)", x.safe(399, false), 0);
        due.is("stride(4)", x.stride(4), 4);
        due.is("abort(0)", x.abort(0), 0);
        due.is("abort(600)", x.abort(600), 0);
        for (int what = 0; what <= 2; what++) {
            due.is("firstHit(" + what + ")", x.firstHit(what), -9);
            due.is("quarrels(" + what + ")", x.quarrels(what), what == 0 ? 0 : -9);
            due.is("tell(" + what + ", 0)", x.tell(what, 0), 0);
        }
        due.is("text(0) of an empty tape", x.text(0), -20);
        for (int call = 0; call <= 5; call++) {
            due.is("lets(" + call + ")", x.lets(call), call == 0 ? 0 : 1);
        }
        for (int what = 0; what <= 8; what++) {
            due.is("best(" + what + ") of no shots", x.best(what), what < 2 ? 0 : -9);
        }
        due.is("judge() of no bytes and no shots", x.judge(), -9);
        for (int star = 0; star <= 3; star++) {
            due.is("matched(" + star + ")", x.matched(star), -9);
        }
        for (int who = 0; who <= 7; who++) {
            due.is("marks(" + who + ", -1)", x.marks(who, -1), -1);
        }
        for (int ground = 0; ground <= 3; ground++) {
            due.is("grip(" + ground + ", 0)", x.grip(ground, 0), 20);
            due.is("grip(" + ground + ", 999)", x.grip(ground, 999), 20);
        }
        due.is("stop(0, 1, 0)", x.stop(0, 1, 0), 1);
        due.is("overtaken()", x.overtaken(), -9);
        due.refused(x, 0, 0, 0, 0, 0);
        nobodyYet(x);
    }

    private static void nobodyYet(StuntSet x) {
        due.is("leg", x.leg(0, 0, 1, 1, 0), -1);
        due.is("cue", x.cue(0, 0, 0), -1);
        due.is("place", x.place(0, 0, 0), -1);
        due.is("hit", x.hit(0, 1), -1);
        due.is("danger", x.danger(0, 0, 0), -1);
        due.is("saved", x.saved(0, 0), -1);
        due.is("sees", x.sees(0, 0), -1);
        due.is("picture", x.picture(0, 0), -1);
        due.is("take", x.take(), -3);
        due.is("lands", x.lands(0, 1), -1);
        due.is("speeds", x.speeds(0, 0), -1);
        due.is("takeBack", x.takeBack(0), -1);
        due.is("good", x.good(0, 0), -1);
        due.refused(x, 12, 0, 1, 0, 0);
    }

    private static void cells() {
        StuntSet x = new StuntSet();
        due.is("cover(0, true)", x.cover(0, true), 1);
        due.is("cover(0, true) again", x.cover(0, true), 0);
        due.is("cover(0, false)", x.cover(0, false), 1);
        due.is("cover(0, false) again", x.cover(0, false), 0);
        due.is("cover(399, true)", x.cover(399, true), 1);
        due.is("cover(-1, true)", x.cover(-1, true), -1);
        due.is("cover(400, false)", x.cover(400, false), -1);
        due.is("safe(0, true)", x.safe(0, true), 1);
        due.is("safe(0, true) again", x.safe(0, true), 0);
        due.is("safe(399, true)", x.safe(399, true), 1);
        due.is("count(17)", x.count(17), 2);
        due.is("safe(0, false)", x.safe(0, false), 1);
        due.is("safe(0, false) again", x.safe(0, false), 0);
        due.is("safe(400, true)", x.safe(400, true), -1);
        due.is("safe(-1, false)", x.safe(-1, false), -1);
        due.is("safe(MIN, true)", x.safe(Integer.MIN_VALUE, true), -1);
        due.is("cover(MAX, true)", x.cover(Integer.MAX_VALUE, true), -1);
        due.is("count(17)", x.count(17), 1);
        due.refused(x, 6, 0, 0, 0, 0);
        for (int cell = 0; cell < 400; cell++) {
            x.safe(cell, true);
        }
        due.is("count(17) of all", x.count(17), 400);
    }

    private static void moverRefusals() {
        StuntSet x = new StuntSet();
        due.is("kind -1", x.mover(-1, -1, -1, -1, -1), -2);
        due.is("kind 2", x.mover(2, 9, 400, 601, 10), -2);
        due.is("cell ahead of below", x.mover(0, -1, -1, -1, -1), -1);
        due.is("cell 400", x.mover(1, 0, 400, 0, 0), -1);
        due.is("size -1", x.mover(0, -1, 0, 601, 10), -4);
        due.is("cue -1", x.mover(0, 4, 0, -1, 0), -4);
        due.is("slip -1", x.mover(0, 4, 0, 601, -1), -4);
        due.is("size 4", x.mover(0, 4, 0, 0, 0), -6);
        due.is("cue 601", x.mover(0, 0, 0, 601, 0), -6);
        due.is("slip 10", x.mover(0, 0, 0, 0, 10), -6);
        due.is("count(0)", x.count(0), 0);
        due.refused(x, 2, 2, 0, 3, 3);
    }

    private static void mostMovers() {
        StuntSet x = new StuntSet();
        for (int i = 0; i < 12; i++) {
            due.is("mover " + i, x.mover(i % 2, 3, 399 - i, 600, 9), i);
            due.is("count(0)", x.count(0), i + 1);
        }
        due.is("mover 12", x.mover(0, 0, 0, 0, 0), -6);
        due.is("mover 12 below", x.mover(0, -1, 0, 0, 0), -4);
        due.is("count(0)", x.count(0), 12);
        due.is("place(11, 600, 9)", x.place(11, 600, 9), 388);
        due.is("place(12, 0, 0)", x.place(12, 0, 0), -1);
    }

    private static void legs() {
        StuntSet x = new StuntSet();
        x.mover(0, 0, 21, 10, 3);
        due.is("leg 1", x.leg(0, 1, 2, 3, 5), 1);
        due.is("leg 2", x.leg(0, 4, 3, 1, 0), 2);
        int[] want = {21, 21, 21, 42, 42, 42, 63, 63, 63, 63, 63, 63, 62, 61, 60, 60};
        for (int i = 0; i < want.length; i++) {
            due.is("place at " + (10 + i), x.place(0, 10 + i, 0), want[i]);
            due.is("place at " + (13 + i) + " late 3", x.place(0, 13 + i, 3), want[i]);
        }
        due.is("place at 0", x.place(0, 0, 0), 21);
        due.is("place at 0 late 3", x.place(0, 0, 3), 21);
        due.is("place at 600", x.place(0, 600, 0), 60);
    }

    private static void legRefusals() {
        StuntSet x = new StuntSet();
        due.is("no mover", x.leg(0, 0, 1, 1, 0), -1);
        x.mover(1, 0, 21, 0, 0);
        due.is("mover -1", x.leg(-1, 8, 0, 0, -1), -1);
        due.is("direction -1", x.leg(0, -1, 0, 0, -1), -2);
        due.is("direction 8", x.leg(0, 8, 20, 21, 100), -2);
        due.is("cells 0", x.leg(0, 0, 0, 21, 100), -4);
        due.is("pace 0", x.leg(0, 0, 20, 0, 100), -4);
        due.is("rest -1", x.leg(0, 0, 20, 21, -1), -4);
        due.is("cells 20", x.leg(0, 0, 20, 1, 0), -6);
        due.is("pace 21", x.leg(0, 4, 2, 21, 0), -6);
        due.is("rest 100", x.leg(0, 4, 2, 1, 100), -6);
        due.is("off the left", x.leg(0, 4, 2, 1, 0), -3);
        due.is("off the top", x.leg(0, 6, 2, 1, 0), -3);
        due.is("off the right", x.leg(0, 0, 19, 1, 0), -3);
        due.is("off below", x.leg(0, 2, 19, 1, 0), -3);
        due.is("off by a corner", x.leg(0, 5, 2, 1, 0), -3);
        due.is("nothing changed", x.place(0, 600, 0), 21);
        due.is("to the edge", x.leg(0, 5, 1, 20, 99), 1);
        due.is("beyond it, from where it came to", x.leg(0, 0, 19, 1, 0), 2);
        due.is("and not on", x.leg(0, 7, 1, 1, 0), -3);
        due.refused(x, 2, 2, 6, 3, 3);
    }

    private static void mostLegs() {
        StuntSet x = new StuntSet();
        x.mover(0, 0, 0, 0, 0);
        for (int i = 1; i <= 10; i++) {
            due.is("leg " + i, x.leg(0, i % 2 == 1 ? 1 : 5, 19, 1, 0), i);
        }
        due.is("leg 11", x.leg(0, 0, 1, 1, 0), -6);
        due.is("leg 11, off the set", x.leg(0, 4, 1, 1, 0), -6);
        due.is("leg 11, below", x.leg(0, 4, 0, 1, 0), -4);
        due.is("place at 189", x.place(0, 189, 0), 21);
        due.is("place at 190", x.place(0, 190, 0), 0);
        due.is("place at 171", x.place(0, 171, 0), 399);
        due.is("count(0)", x.count(0), 1);
    }

    private static void everyDirection() {
        int[] to = {213, 273, 270, 267, 207, 147, 150, 153};
        for (int d = 0; d < 8; d++) {
            StuntSet x = new StuntSet();
            x.mover(0, 0, 210, 0, 0);
            due.is("leg by " + d, x.leg(0, d, 3, 1, 0), 1);
            due.is("place by " + d, x.place(0, 3, 0), to[d]);
        }
    }

    private static void cues() {
        StuntSet x = new StuntSet();
        due.is("no mover", x.cue(0, 0, 0), -1);
        x.mover(0, 0, 0, 7, 2);
        x.leg(0, 0, 1, 1, 0);
        due.is("cue(-1)", x.cue(-1, -1, -1), -1);
        due.is("tenth -1", x.cue(0, -1, 10), -4);
        due.is("slip -1", x.cue(0, 601, -1), -4);
        due.is("tenth 601", x.cue(0, 601, 0), -6);
        due.is("slip 10", x.cue(0, 0, 10), -6);
        due.is("nothing changed", x.place(0, 7, 0), 0);
        due.is("nothing changed", x.place(0, 8, 0), 1);
        due.is("cue(0, 20, 9)", x.cue(0, 20, 9), 7);
        due.is("place at 20", x.place(0, 20, 0), 0);
        due.is("place at 21", x.place(0, 21, 0), 1);
        due.is("place at 29 late 9", x.place(0, 29, 9), 0);
        due.is("place at 30 late 9", x.place(0, 30, 9), 1);
        due.is("cue(0, 600, 0)", x.cue(0, 600, 0), 20);
        due.is("place at 600", x.place(0, 600, 0), 0);
        due.is("late above the new slip", x.place(0, 600, 1), -6);
        due.is("cue(0, 0, 0)", x.cue(0, 0, 0), 600);
        due.is("place at 1", x.place(0, 1, 0), 1);
        due.refused(x, 2, 0, 0, 2, 3);
    }

    private static void places() {
        StuntSet x = new StuntSet();
        x.mover(1, 0, 399, 0, 2);
        due.is("mover 1", x.place(1, -1, -1), -1);
        due.is("mover -1", x.place(-1, 0, 0), -1);
        due.is("tenth -1", x.place(0, -1, 3), -4);
        due.is("late -1", x.place(0, 601, -1), -4);
        due.is("tenth 601", x.place(0, 601, 0), -6);
        due.is("late 3", x.place(0, 0, 3), -6);
        due.is("late 2", x.place(0, 0, 2), 399);
        due.refused(x, 2, 0, 0, 2, 2);
    }
}
