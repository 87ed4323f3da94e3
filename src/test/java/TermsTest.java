/** The terms: the least and the greatest of each number is not only taken but reckoned with, just as it is. */
public final class TermsTest {
    private static final Due due = new Due();

    public static void main(String[] args) {
        cells();
        sizes();
        cuesAndSlips();
        paces();
        waits();
        longestWay();
        edgesOfTheSet();
        strides();
        slipsOfHits();
        slipsOfDangers();
        abortsAtTheEdges();
        widesAndReaches();
        camerasOn();
        windGustSun();
        numbersOfTexts();
        calls();
        ramps();
        landings();
        bags();
        fires();
        minutes();
        risks();
        rows();
        marks();
        speedsAndStops();
        rooms();
        counts();
        due.end("TermsTest");
    }

    /** CELLS x, y (0 .. 19), told as 20 y and x (0 .. 399): each is one of its own. */
    private static void cells() {
        StuntSet x = new StuntSet();
        for (int cell = 0; cell < 400; cell++) {
            due.is("safe(" + cell + ")", x.safe(cell, true), 1);
        }
        due.is("count(17)", x.count(17), 400);
        StuntSet y = new StuntSet();
        for (int cell = 0; cell < 400; cell++) {
            due.is("cover(" + cell + ")", y.cover(cell, true), 1);
        }
        due.is("cover is not safe", y.count(17), 0);
        due.is("cover(0, true) again", y.cover(0, true), 0);
        due.is("cover(399, false)", y.cover(399, false), 1);
        due.is("cover(399, false) again", y.cover(399, false), 0);
    }

    /** A SIZE (0 .. 3): FAR is no more than their SIZES together. */
    private static void sizes() {
        for (int a = 0; a <= 3; a++) {
            for (int b = 0; b <= 3; b++) {
                StuntSet x = new StuntSet();
                x.mover(1, a, 200, 0, 0);
                x.mover(0, b, 200 + a + b, 0, 0);
                x.mover(0, b, 201 + a + b, 0, 0);
                String sizes = "sizes " + a + " and " + b;
                due.is(sizes + ", far " + (a + b), x.hit(0, 1), 0);
                due.is(sizes + ", far " + (a + b + 1), x.hit(0, 2), -9);
                for (int far = 0; far < a + b; far++) {
                    int near = x.mover(0, b, 200 + 20 * far, 0, 0);
                    due.is(sizes + ", far " + far, x.hit(0, near), 0);
                    due.is(sizes + ", danger far " + far, x.danger(near, 200 + far, 600), 1);
                }
                due.is(sizes + ", danger far " + (a + b), x.danger(1, 200 + a + b, 0), 1);
                due.is(sizes + ", danger far " + (a + b + 1), x.danger(1, 201 + a + b, 0), 0);
            }
        }
    }

    /** A CUE (0 .. 600), a SLIP (0 .. 9): up to CUE and l where it starts. */
    private static void cuesAndSlips() {
        for (int cue : new int[] {0, 1, 300, 590}) {
            for (int slip : new int[] {0, 1, 9}) {
                StuntSet x = new StuntSet();
                x.mover(0, 0, 7, cue, slip);
                x.leg(0, 0, 1, 1, 0);
                String told = "cue " + cue + ", late " + slip;
                due.is(told + ": at the cue and late", x.place(0, cue + slip, slip), 7);
                due.is(told + ": a tenth behind it", x.place(0, cue + slip + 1, slip), 8);
                due.is(told + ": late above the slip", x.place(0, cue + slip, slip + 1), -6);
                due.is(told + ": at 0", x.place(0, 0, slip), 7);
            }
        }
        StuntSet last = new StuntSet();
        last.mover(0, 0, 7, 600, 9);
        last.leg(0, 0, 1, 1, 0);
        due.is("cue 600 never goes", last.place(0, 600, 0), 7);
        due.is("what cue was", last.cue(0, 599, 9), 600);
        due.is("cue 599 goes at 600", last.place(0, 600, 0), 8);
        due.is("but not late by 1", last.place(0, 600, 1), 7);
        due.is("what cue was", last.cue(0, 0, 0), 599);
        due.is("what cue was", last.cue(0, 600, 0), 0);
    }

    /** A PACE (1 .. 20 TENTHS a CELL), how many CELLS (1 .. 19): a CELL on as each PACE is over. */
    private static void paces() {
        for (int pace = 1; pace <= 20; pace++) {
            StuntSet x = new StuntSet();
            x.mover(0, 0, 0, 3, 0);
            x.leg(0, 0, 19, pace, 0);
            for (int n = 1; n <= 19; n++) {
                due.is("pace " + pace + ", ahead of cell " + n, x.place(0, 3 + n * pace - 1, 0), n - 1);
                due.is("pace " + pace + ", cell " + n, x.place(0, 3 + n * pace, 0), n);
            }
            due.is("pace " + pace + ", behind all", x.place(0, 600, 0), 19);
        }
        StuntSet one = new StuntSet();
        one.mover(0, 0, 0, 0, 0);
        one.leg(0, 2, 1, 20, 0);
        due.is("one cell: at 19", one.place(0, 19, 0), 0);
        due.is("one cell: at 20", one.place(0, 20, 0), 20);
        due.is("one cell: at 40", one.place(0, 40, 0), 20);
    }

    /** A WAIT behind it (0 .. 99 TENTHS). */
    private static void waits() {
        for (int wait : new int[] {0, 1, 98, 99}) {
            StuntSet x = new StuntSet();
            x.mover(0, 0, 0, 0, 0);
            x.leg(0, 0, 1, 2, wait);
            x.leg(0, 2, 1, 3, 0);
            due.is("wait " + wait + ": behind the first leg", x.place(0, 2, 0), 1);
            due.is("wait " + wait + ": ahead of the second", x.place(0, 2 + wait + 2, 0), 1);
            due.is("wait " + wait + ": the second", x.place(0, 2 + wait + 3, 0), 21);
        }
    }

    /** LEGS (10 at most), each as long and slow as may be: TENTHS end at 600, the way does not. */
    private static void longestWay() {
        StuntSet x = new StuntSet();
        x.mover(0, 0, 0, 0, 9);
        for (int i = 1; i <= 10; i++) {
            due.is("leg " + i, x.leg(0, i % 2 == 1 ? 0 : 4, 19, 20, 99), i);
        }
        due.is("leg 11", x.leg(0, 0, 1, 1, 0), -6);
        due.is("at 379", x.place(0, 379, 0), 18);
        due.is("at 380", x.place(0, 380, 0), 19);
        due.is("its wait ends at 479", x.place(0, 498, 0), 19);
        due.is("at 499", x.place(0, 499, 0), 18);
        due.is("at 598", x.place(0, 598, 0), 14);
        due.is("at 599", x.place(0, 599, 0), 13);
        due.is("at 600", x.place(0, 600, 0), 13);
        due.is("at 600, late by 9", x.place(0, 600, 9), 14);
        due.is("at 601", x.place(0, 601, 0), -6);
        StuntSet y = new StuntSet();
        y.mover(1, 0, 0, 600, 0);
        y.leg(0, 0, 19, 20, 99);
        due.is("it is never there, but its next leg begins there", y.leg(0, 0, 1, 1, 0), -3);
        due.is("and back", y.leg(0, 4, 19, 20, 99), 2);
        due.is("and not on", y.leg(0, 4, 1, 1, 0), -3);
        due.is("at 600 it is where it starts", y.place(0, 600, 0), 0);
    }

    /** All on THE SET: from 210 (x 10, y 10) as far as each DIRECTION goes, and a CELL farther. */
    private static void edgesOfTheSet() {
        int[] most = {9, 9, 9, 9, 10, 10, 10, 9};
        int[] where = {219, 399, 390, 381, 200, 0, 10, 39};
        for (int d = 0; d < 8; d++) {
            StuntSet x = new StuntSet();
            x.mover(0, 0, 210, 0, 0);
            due.is("direction " + d + ", a cell too far", x.leg(0, d, most[d] + 1, 1, 0), -3);
            due.is("direction " + d + ", 19 cells", x.leg(0, d, 19, 1, 0), -3);
            due.is("a refused leg is none", x.place(0, 600, 0), 210);
            due.is("direction " + d + ", to the edge", x.leg(0, d, most[d], 1, 0), 1);
            due.is("direction " + d + ", where it came to", x.place(0, 600, 0), where[d]);
            due.is("direction " + d + ", a cell more", x.leg(0, d, 1, 1, 0), -3);
            due.refused(x, 0, 0, 3, 0, 0);
        }
        int[][] corners = {{0, 1, 399}, {19, 3, 380}, {399, 5, 0}, {380, 7, 19}};
        for (int[] c : corners) {
            StuntSet x = new StuntSet();
            x.mover(0, 0, c[0], 0, 0);
            due.is("19 cells from corner " + c[0], x.leg(0, c[1], 19, 1, 0), 1);
            due.is("to corner " + c[2], x.place(0, 19, 0), c[2]);
        }
    }

    /** STRIDE (1 .. 20 TENTHS; 4 at first); at t and 100 at latest. */
    private static void strides() {
        for (int stride = 1; stride <= 20; stride++) {
            int most = Math.min(19, 100 / stride);
            StuntSet x = new StuntSet();
            due.is("stride(" + stride + ")", x.stride(stride), 4);
            x.mover(0, 0, 0, 0, 0);
            x.safe(most, true);
            due.is("stride " + stride + ", " + most + " cells", x.saved(0, 0), most * stride);
            due.is("stride " + stride + ", from 600 on", x.saved(0, 600), 600 + most * stride);
            if (most < 19) {
                x.safe(most, false);
                x.safe(most + 1, true);
                due.is("stride " + stride + ", a cell too far", x.saved(0, 0), -9);
                due.is("stride " + stride + ", lost", x.abort(0), 1);
            }
        }
        StuntSet y = new StuntSet();
        y.mover(0, 0, 0, 0, 0);
        y.safe(3, true);
        due.is("4 at first", y.saved(0, 0), 12);
    }

    /** HIT: with some LATES of each (0 .. its SLIP, 9 at most). */
    private static void slipsOfHits() {
        for (int slip = 0; slip <= 9; slip++) {
            StuntSet x = new StuntSet();
            x.mover(1, 0, 5, 10, slip);
            x.leg(0, 2, 1, 1, 0);
            x.mover(0, 0, 4, 10 + slip, 0);
            x.leg(1, 0, 1, 1, 0);
            due.is("slip " + slip + ": gone from 5 as the other comes", x.hit(0, 1), -9);
            x.cue(1, 9 + slip, 0);
            due.is("slip " + slip + ": still there", x.hit(0, 1), 10 + slip);
            due.is("slip " + slip + ": first hit", x.firstHit(0), 10 + slip);
        }
    }

    /** DANGER: with some LATE of a CAR. */
    private static void slipsOfDangers() {
        for (int slip = 0; slip <= 9; slip++) {
            StuntSet x = new StuntSet();
            x.mover(0, 0, 399, 0, 9);
            x.mover(1, 0, 5, 10, slip);
            x.leg(1, 0, 1, 3, 0);
            due.is("slip " + slip + ": at 5 at last", x.danger(0, 5, 12 + slip), 1);
            due.is("slip " + slip + ": gone", x.danger(0, 5, 13 + slip), 0);
            due.is("slip " + slip + ": not at 6 yet", x.danger(0, 6, 12), 0);
            due.is("slip " + slip + ": at 6", x.danger(0, 6, 13), 1);
            due.is("slip " + slip + ": at 6 at 600", x.danger(0, 6, 600), 1);
        }
    }

    /** No DANGER at any TENTH from t on up to that one (that one too); TENTHS beyond 600 are as 600. */
    private static void abortsAtTheEdges() {
        StuntSet x = new StuntSet();
        x.mover(0, 0, 0, 0, 0);
        x.mover(1, 0, 19, 0, 0);
        x.leg(1, 4, 18, 1, 0);
        x.safe(0, true);
        due.is("in a safe cell at t", x.saved(0, 17), 17);
        x.leg(1, 4, 1, 1, 0);
        due.is("a tenth ahead of the car", x.saved(0, 18), 18);
        due.is("danger at t itself", x.saved(0, 19), -9);
        x.safe(0, false);
        x.safe(20, true);
        x.cue(1, 585, 0);
        due.is("the stride ends as the car comes, at 604: it never does", x.saved(0, 600), 604);
        x.cue(1, 581, 0);
        due.is("the car comes at 600: gone by then", x.saved(0, 596), 600);
        due.is("too late by one", x.saved(0, 597), -9);
        due.is("at 600 it is there", x.saved(0, 600), -9);
        x.cue(1, 582, 0);
        due.is("at 601 it would be there: beyond 600 is as 600", x.saved(0, 599), 603);
        due.is("none but a body is lost", x.abort(599), 0);
        StuntSet none = new StuntSet();
        none.mover(1, 0, 0, 0, 0);
        due.is("no body", none.abort(0), 0);
        due.is("no body", none.abort(600), 0);
    }

    /** WIDE (0 .. 2), REACH (1 .. 19): twice the amount of ACROSS no more than WIDE times ALONG, ALONG above 0. */
    private static void widesAndReaches() {
        for (int wide = 0; wide <= 2; wide++) {
            StuntSet x = new StuntSet();
            x.camera(200, 0, wide, 19, 0, 0);
            for (int along = 1; along <= 18; along++) {
                int across = wide * along / 2;
                int y = Math.min(across, 9);
                String told = "wide " + wide + ", along " + along;
                due.is(told + ", across " + y, x.sees(0, 200 + along + 20 * y), 1);
                due.is(told + ", across -" + y, x.sees(0, 200 + along - 20 * y), 1);
                if (across < 9) {
                    due.is(told + ", across " + (across + 1), x.sees(0, 200 + along + 20 * (across + 1)), 0);
                    due.is(told + ", across -" + (across + 1), x.sees(0, 200 + along - 20 * (across + 1)), 0);
                }
            }
            due.is("wide " + wide + ", along 0", x.sees(0, 220), 0);
            due.is("wide " + wide + ", itself", x.sees(0, 200), 0);
        }
        for (int reach = 1; reach <= 19; reach++) {
            StuntSet x = new StuntSet();
            x.camera(0, 0, 0, reach, 0, 0);
            x.camera(0, 1, 0, reach, 0, 0);
            due.is("reach " + reach, x.sees(0, reach), 1);
            due.is("reach " + reach + " by a corner", x.sees(1, 21 * reach), 1);
            if (reach < 19) {
                due.is("reach " + reach + ", one farther", x.sees(0, reach + 1), 0);
                due.is("reach " + reach + " by a corner, one farther", x.sees(1, 21 * (reach + 1)), 0);
            }
        }
        cornersOfWides();
    }

    /** By a corner ALONG is dx and dy, ACROSS dx less dy. */
    private static void cornersOfWides() {
        StuntSet x = new StuntSet();
        for (int wide = 0; wide <= 2; wide++) {
            x.camera(0, 1, wide, 19, 0, 0);
        }
        due.is("wide 0: 2, 2", x.sees(0, 42), 1);
        due.is("wide 0: 3, 2", x.sees(0, 43), 0);
        due.is("wide 1: 3, 1, along 4, across 2", x.sees(1, 23), 1);
        due.is("wide 1: 4, 1, along 5, across 3", x.sees(1, 24), 0);
        due.is("wide 1: 1, 3", x.sees(1, 61), 1);
        due.is("wide 1: 1, 4", x.sees(1, 81), 0);
        due.is("wide 2: 4, 0, along 4, across 4", x.sees(2, 4), 1);
        due.is("wide 2: 0, 4", x.sees(2, 80), 1);
        StuntSet y = new StuntSet();
        y.camera(210, 1, 2, 19, 0, 0);
        due.is("wide 2: 4, -1, along 3, across 5", y.sees(0, 194), 0);
        due.is("along 0: 1, -1", y.sees(0, 191), 0);
    }

    /** On from a TENTH to a TENTH, both of them; QUARREL if both are on at some TENTH. */
    private static void camerasOn() {
        int[][] spans = {{0, 0}, {0, 600}, {600, 600}, {299, 301}};
        for (int[] span : spans) {
            StuntSet x = new StuntSet();
            x.mover(0, 0, 1, 0, 0);
            x.camera(0, 0, 0, 1, span[0], span[1]);
            String told = "on from " + span[0] + " to " + span[1];
            due.is(told + ", first", x.picture(0, span[0]), 1);
            due.is(told + ", last", x.picture(0, span[1]), 1);
            due.is(told + ", ahead", x.picture(0, span[0] - 1), span[0] == 0 ? -4 : 0);
            due.is(told + ", behind", x.picture(0, span[1] + 1), span[1] == 600 ? -6 : 0);
        }
        StuntSet x = new StuntSet();
        x.camera(0, 0, 0, 1, 10, 20);
        x.camera(1, 0, 0, 1, 20, 20);
        due.is("both on at 20", x.quarrels(0), 1);
        x.camera(1, 0, 0, 1, 10, 10);
        due.is("both on at 10", x.quarrels(0), 2);
        x.camera(1, 0, 0, 1, 21, 600);
        x.camera(1, 0, 0, 1, 0, 9);
        due.is("not at 21 or 9", x.quarrels(0), 2);
        StuntSet all = new StuntSet();
        for (int i = 0; i < 8; i++) {
            all.camera(2 * i, 0, 0, 19, 0, 0);
        }
        due.is("every two of eight", all.quarrels(0), 28);
        StuntSet one = new StuntSet();
        due.is("no camera", one.quarrels(0), 0);
        due.is("no camera", one.quarrels(2), -9);
        one.camera(0, 0, 2, 19, 0, 600);
        due.is("one camera", one.quarrels(0), 0);
        due.is("one camera", one.quarrels(1), -9);
    }

    /** w WIND, g GUST (0 .. 99 each), s SUN (0 .. 999). */
    private static void windGustSun() {
        Told x = new Told();
        x.feed("w=0&g=0&s=0").call("text", 0);
        x.feed("w=99&g=99&s=999").call("text", 1);
        due.is("0 at first", x.call("lets", 0), 1);
        due.is("nor the greatest", x.call("lets", 1), 0);
        int[] greatest = {99, 99, 999};
        for (int what = 0; what <= 2; what++) {
            due.is("tell(" + what + ") the greatest", x.call("tell", what, greatest[what]), 0);
            due.is("not 0 any more", x.call("lets", 0), 0);
            due.is("all are the greatest", x.call("lets", 1), what == 2 ? 1 : 0);
            due.is("one above", x.call("tell", what, greatest[what] + 1), -6);
        }
        for (int what = 0; what <= 2; what++) {
            due.is("tell(" + what + ", -1)", x.call("tell", what, -1), -4);
            due.is("tell(" + what + ", 0)", x.call("tell", what, 0), greatest[what]);
        }
        due.is("0 again", x.call("lets", 0), 1);
    }

    /** A number of 1 to 4 digits. */
    private static void numbersOfTexts() {
        String[] let = {"0=0", "0=0000", "9=0009", "9999=9999", "9999>9998", "0<1", "1000>999", "0999<1000"};
        for (String text : let) {
            Told x = new Told().feed(text);
            due.is("text " + text, x.call("text", 0), 1);
            due.is("lets " + text, x.call("lets", 0), 1);
        }
        String[] notLet = {"9999<9999", "9999>9999", "0=1", "1=0", "0>0", "0<0", "1<0", "0>1", "9999<0", "0>9999",
            "9998=9999"};
        for (String text : notLet) {
            Told x = new Told().feed(text);
            due.is("text " + text, x.call("text", 0), 1);
            due.is("lets " + text, x.call("lets", 0), 0);
        }
    }

    /** CALLS: 0 GO, 1 .. 5 STOP; without a TEXT GO is not let, STOP is. */
    private static void calls() {
        for (int call = 0; call <= 5; call++) {
            Told x = new Told();
            due.is("call " + call + " without a text", x.call("lets", call), call == 0 ? 0 : 1);
            x.feed("1=2").call("text", call);
            due.is("call " + call + " with 1=2", x.call("lets", call), 0);
            x.feed("1=1").call("text", call);
            due.is("call " + call + " with the text told last", x.call("lets", call), 1);
            for (int other = 0; other <= 5; other++) {
                if (other != call) {
                    due.is("call " + other + " has none", x.call("lets", other), other == 0 ? 0 : 1);
                }
            }
            due.is("take", x.call("take"), call == 0 ? 1 : -3);
            due.is("takes", x.call("count", 3), call == 0 ? 1 : 0);
        }
    }

    /** RISE (1 .. 99) by RUN (1 .. 99), SPEED (1 .. 99); it lands on the first TENTH (1 at least). */
    private static void ramps() {
        StuntSet x = new StuntSet();
        x.ramp(1, 1, 1, 1);
        x.ramp(99, 1, 1, 1);
        x.ramp(1, 99, 1, 1);
        x.ramp(99, 99, 1, 1);
        int[] least = {2, 100, 1, 2};
        int[] greatest = {99 * 100, 99 * (99 * 99 + 1), 99 * 2, 99 * 100};
        for (int r = 0; r < 4; r++) {
            due.is("ramp " + r + ", speed 1", x.lands(r, 1), least[r]);
            due.is("ramp " + r + ", speed 99", x.lands(r, 99), greatest[r]);
            due.is("ramp " + r + ", speed 0", x.lands(r, 0), -4);
            due.is("ramp " + r + ", speed 100", x.lands(r, 100), -6);
        }
        due.is("up 0: 1 tenth at least", x.lands(2, 98), 98);
    }

    /** A GAP (1 .. 999), LANDING so LONG (1 .. 999): GAP to GAP and LONG, both of them. */
    private static void landings() {
        // With 1 by 1 a speed v lands at v times v and 1: 2, 6, 12, 20, 30, ..
        int[][] rows = {
            {1, 1, 1, 1, 1}, {2, 1, 1, 1, 1}, {3, 2, 0, -9, -9}, {3, 3, 1, 2, 2}, {6, 6, 2, 2, 3}, {7, 5, 1, 3, 3},
            {7, 4, 0, -9, -9}, {1, 999, 31, 1, 31}, {999, 999, 13, 32, 44}, {992, 64, 2, 31, 32}, {993, 63, 1, 32, 32},
            {993, 62, 0, -9, -9}, {999, 1, 0, -9, -9}};
        for (int[] row : rows) {
            StuntSet x = new StuntSet();
            x.ramp(1, 1, row[0], row[1]);
            String told = "gap " + row[0] + ", long " + row[1];
            due.is(told + ", how many", x.speeds(0, 0), row[2]);
            due.is(told + ", least", x.speeds(0, 1), row[3]);
            due.is(told + ", greatest", x.speeds(0, 2), row[4]);
        }
        StuntSet y = new StuntSet();
        y.ramp(1, 99, 99, 99);
        due.is("99 does not land at 99 but at 198, as far as may be", y.speeds(0, 0), 1);
        due.is("99", y.speeds(0, 1), 99);
    }

    /** A height (1 .. 999), a jolt (1 .. 99): cut up. */
    private static void bags() {
        StuntSet x = new StuntSet();
        due.is("1 by 1", x.bags(1, 1), 10);
        due.is("1 by 99", x.bags(1, 99), 1);
        due.is("999 by 1", x.bags(999, 1), 9990);
        due.is("999 by 99, cut up", x.bags(999, 99), 101);
        due.is("99 by 99: 10, nothing to cut", x.bags(99, 99), 10);
        due.is("100 by 99: 1000 by 99, cut up", x.bags(100, 99), 11);
        due.is("98 by 99: 980 by 99, cut up", x.bags(98, 99), 10);
    }

    /** GEL (0 .. 99), HEAT (1 .. 9), burns and out (0 .. 999): let if it lasts longer, not if just as long. */
    private static void fires() {
        StuntSet x = new StuntSet();
        due.is("0 is not above 0", x.fire(0, 1, 0, 0), 0);
        due.is("3 is above 0", x.fire(1, 9, 0, 0), 1);
        due.is("2970 above 1998 and 200", x.fire(99, 1, 999, 999), 1);
        due.is("330 above 300 and 30: no", x.fire(99, 9, 300, 0), 0);
        due.is("330 above 299 and 30", x.fire(99, 9, 299, 0), 1);
        due.is("330 above 150 and 150 and 30: no", x.fire(99, 9, 150, 150), 0);
        due.is("330 above 149 and 150 and 30", x.fire(99, 9, 149, 150), 1);
        due.is("330 above 999: no", x.fire(99, 9, 0, 999), 0);
        due.is("1110 above 999 and 100", x.fire(37, 1, 0, 999), 1);
        due.is("1110 above 999 and 10 and 101: no", x.fire(37, 1, 999, 10), 0);
        due.is("1140 above 999 and 37 and 104: no", x.fire(38, 1, 999, 37), 0);
        due.is("a tenth of 11 is cut up to 2: 15 above 13", x.fire(1, 2, 0, 11), 1);
        due.is("a tenth of 13 is cut up to 2: 15 above 15: no", x.fire(1, 2, 6, 7), 0);
    }

    /** Minutes (1 .. 300), from when to when (0 .. 999 each; it must begin and end within). */
    private static void minutes() {
        int[][] rows = {{1, 0, 1, 1}, {1, 0, 0, -9}, {300, 0, 300, 300}, {300, 0, 299, -9}, {300, 699, 999, 999},
            {300, 700, 999, -9}, {1, 998, 999, 999}, {1, 999, 999, -9}, {299, 0, 999, 299}};
        for (int[] row : rows) {
            StuntSet x = new StuntSet();
            String told = row[0] + " minutes from " + row[1] + " to " + row[2];
            due.is(told, x.shot(0, row[0], row[1], row[2], 0, 0), 0);
            due.is(told + ", ends", x.best(1), row[3]);
            due.is(told + ", the shot", x.best(2), row[3] < 0 ? -9 : 0);
            x.put(0);
            due.is(told + ", judged", x.judge(), row[3] < 0 ? 0 : -9);
        }
        StuntSet y = new StuntSet();
        y.shot(0, 300, 0, 600, 0, 0);
        y.shot(1, 300, 0, 600, 0, 0);
        due.is("both end in time", y.best(1), 600);
        y.shot(2, 1, 0, 600, 0, 0);
        due.is("a minute too many", y.best(1), -9);
    }

    /** A RISK (0 .. 999), TIRED (0 .. 99), a DOUBLE (0 .. 3): for each SHOT of the same DOUBLE ahead of it. */
    private static void risks() {
        StuntSet x = new StuntSet();
        for (int i = 1; i <= 7; i++) {
            x.shot(3, 1, 0, 999, 999, 99);
            due.is(i + " shots of one double", x.best(0), 999 * i + 99 * i * (i - 1) / 2);
        }
        StuntSet y = new StuntSet();
        for (int twin = 0; twin <= 3; twin++) {
            y.shot(twin, 1, 0, 999, 999, 99);
        }
        due.is("of four doubles", y.best(0), 4 * 999);
        y.shot(0, 1, 0, 999, 0, 0);
        due.is("0 and not tired, behind the first of its double", y.best(0), 4 * 999);
        due.is("so the order by numbers", y.best(2), 0);
        due.is("shot 4 goes last", y.best(6), 4);
        due.is("there is no sixth", y.best(7), -9);
        due.is("there is no seventh", y.best(8), -9);
        due.is("what 9", y.best(9), -2);
    }

    /** JUDGED: too few or too many: where they end; a row holds 12. */
    private static void rows() {
        StuntSet x = new StuntSet();
        for (int i = 0; i < 7; i++) {
            x.shot(0, 1, 0, 999, 0, 0);
        }
        for (int many = 0; many <= 12; many++) {
            for (int i = 0; i < many; i++) {
                due.is("put " + i + " of " + many, x.put(i), i + 1);
            }
            due.is(many + " put of 7", x.judge(), many < 7 ? many : many == 7 ? -9 : 7);
            due.is("the row has none", x.count(10), 0);
        }
        StuntSet y = new StuntSet();
        y.shot(0, 1, 0, 999, 0, 0);
        int[] wrong = {-128, -1, 1, 2, 7, 8, 32, 64, 127};
        for (int v : wrong) {
            y.put(v);
            due.is("no shot " + v, y.judge(), 0);
            y.put(0);
            y.put(v);
            due.is("no shot " + v + " behind one", y.judge(), 1);
        }
        y.put(0);
        due.is("an order", y.judge(), -9);
        due.is("empty: too few", y.judge(), 0);
        StuntSet full = new StuntSet();
        for (int i = 1; i <= 12; i++) {
            full.put(0);
        }
        due.is("13", full.put(0), -6);
        due.is("12 put, no shots", full.judge(), 0);
        due.is("room again", full.put(0), 1);
    }

    /** MARKS (0 .. 99999: 5 digits; -1 none): UNLIKE by 2 at most, in any of the digits. */
    private static void marks() {
        int[] tens = {1, 10, 100, 1000, 10000};
        for (int bits = 0; bits < 32; bits++) {
            int marks = 0;
            for (int i = 0; i < 5; i++) {
                marks += (bits >> i & 1) * 9 * tens[i];
            }
            StuntSet x = new StuntSet();
            due.is("marks(3, 0)", x.marks(3, 0), -1);
            due.is("marks(7, " + marks + ")", x.marks(7, marks), -1);
            due.is("00000 and " + marks, x.matched(3), Integer.bitCount(bits) <= 2 ? 3 : -9);
            due.is("another star", x.matched(0), -9);
            due.is("what they were", x.marks(7, -1), marks);
            due.is("what they were: none", x.marks(7, 99999), -1);
            due.is("none is not like none", x.matched(2), -9);
        }
        for (int who = 0; who <= 7; who++) {
            StuntSet x = new StuntSet();
            due.is("who " + who, x.marks(who, 99999), -1);
            due.is("who " + who, x.marks(who, 0), 99999);
            due.is("who " + who + ", 100000", x.marks(who, 100000), 1000000006);
            due.is("who " + who + ", -2", x.marks(who, -2), 1000000004);
            due.is("who " + who + ", as before", x.marks(who, -1), 0);
        }
    }

    /** A SPEED (1 .. 99) stopped in so much (1 .. 9999); GRIP is cut, 1 at least; STOP is cut up. */
    private static void speedsAndStops() {
        int[][] rows = {{1, 1, 10}, {1, 10, 1}, {1, 11, 1}, {1, 9999, 1}, {99, 1, 98010}, {99, 9999, 9}, {99, 9801, 10},
            {99, 9802, 9}, {10, 1000, 1}, {10, 500, 2}, {10, 501, 1}};
        for (int[] row : rows) {
            StuntSet x = new StuntSet();
            due.is("without", x.grip(0, 999), 20);
            due.is("run", x.run(0, row[0], row[1]), 0);
            String told = "speed " + row[0] + " stopped in " + row[1];
            due.is(told + ": grip", x.grip(0, 0), row[2]);
            due.is(told + ": stop of 1", x.stop(0, 1, 0), (10 + row[2] - 1) / row[2]);
            due.is(told + ": stop of 99", x.stop(0, 99, 0), (98010 + row[2] - 1) / row[2]);
            due.is(told + ": another ground", x.grip(1, 0), 20);
        }
        StuntSet all = new StuntSet();
        for (int i = 0; i < 60; i++) {
            all.run(3, 99, 1);
        }
        due.is("60 of the greatest", all.grip(3, 0), 98010);
        due.is("61", all.run(3, 99, 1), -6);
    }

    /** ROOM (1 .. 99999); GOOD: STOP is no more than ROOM. */
    private static void rooms() {
        StuntSet x = new StuntSet();
        x.run(0, 1, 9999);
        x.plan(0, 99, 98010);
        x.plan(0, 99, 98009);
        x.plan(0, 99, 99999);
        x.plan(0, 1, 10);
        x.plan(0, 1, 9);
        x.plan(1, 1, 1);
        x.plan(1, 2, 1);
        int[] good = {1, 0, 1, 1, 0, 1, 0};
        for (int plan = 0; plan < good.length; plan++) {
            due.is("plan " + plan + " on 0", x.good(plan, 0), good[plan]);
            due.is("plan " + plan + " on 999", x.good(plan, 999), good[plan]);
        }
        due.is("none overtaken", x.overtaken(), -9);
    }

    /** KNOWN from now on, TAKEN BACK from now on; a COUNT of days, 0 .. 999; K (0 .. 999). */
    private static void counts() {
        StuntSet x = new StuntSet();
        x.run(0, 10, 100);
        due.is("known on 0", x.grip(0, 0), 10);
        due.is("COUNT 999", x.days(999), 999);
        due.is("a day more", x.days(1), -6);
        x.run(1, 10, 100);
        x.plan(1, 10, 50);
        due.is("not known on 998", x.grip(1, 998), 20);
        due.is("known on 999", x.grip(1, 999), 10);
        due.is("taken back on 999", x.takeBack(0), 1);
        due.is("counts on 998", x.grip(0, 998), 10);
        due.is("does not on 999", x.grip(0, 999), 20);
        due.is("runs that count now", x.count(6), 1);
        due.is("once", x.takeBack(0), -3);
        due.is("not good on 999", x.good(0, 999), 0);
        due.is("good on 998", x.good(0, 998), 1);
        due.is("planned on 999, not good then", x.overtaken(), -9);
        StuntSet y = new StuntSet();
        due.is("998", y.days(998), 998);
        y.plan(0, 10, 50);
        due.is("999", y.days(1), 999);
        y.run(0, 10, 100);
        due.is("good on 998 and not on 999", y.overtaken(), 0);
        y.takeBack(0);
        due.is("good again", y.overtaken(), -9);
        StuntSet z = new StuntSet();
        z.run(2, 10, 100);
        z.takeBack(0);
        due.is("known and taken back on 0", z.grip(2, 0), 20);
        due.is("runs that count now", z.count(6), 0);
        due.is("it was", z.takeBack(0), -3);
        due.is("its number is not given again", z.run(2, 10, 100), 1);
        z.days(3);
        z.takeBack(1);
        z.days(2);
        due.is("refused on 5", z.takeBack(1), -3);
        due.is("counts on 2", z.grip(2, 2), 10);
        due.is("taken back on 3 all the same", z.grip(2, 3), 20);
        due.is("and on 4", z.grip(2, 4), 20);
    }
}
