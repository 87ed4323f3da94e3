/** A stunt's day on a set, as ../shared/DOC.md promises it. */
public final class StuntSet {
    private static final int NOBODY = -1;
    private static final int OTHER = -2;
    private static final int STATE = -3;
    private static final int BELOW = -4;
    private static final int ROOM = -6;
    private static final int NONE = -9;
    /** Added to a refusal's amount in marks(), whose -1 is an answer. */
    private static final int MARKS_REFUSED = 1000000000;
    /** What text() answers for a FAULT at place 0. */
    private static final int FAULT_BASE = -20;

    private static final int SIDE = 20;
    private static final int CELLS = 400;
    private static final int ALL_OF_ROW = (1 << SIDE) - 1;
    private static final int LAST_TENTH = 600;
    private static final int[] DIRECTION_X = {1, 1, 0, -1, -1, -1, 0, 1};
    private static final int[] DIRECTION_Y = {0, 1, 1, 1, 0, -1, -1, -1};

    private static final int BODY = 0;
    private static final int CAR = 1;
    private static final int MOST_MOVERS = 12;
    private static final int MOST_LEGS = 10;
    private static final int MOST_SIZE = 3;
    private static final int MOST_SLIP = 9;
    private static final int MOST_PACE = 20;
    private static final int MOST_WAIT = 99;
    private static final int MOST_STRIDE = 20;
    private static final int FIRST_STRIDE = 4;
    private static final int TIME_TO_RUN = 100;

    private static final int MOST_CAMERAS = 8;
    private static final int MOST_WIDE = 2;

    private static final int CALLS = 6;
    private static final int TAPE_ROOM = 60;
    private static final int MOST_TEXTS = 40;
    private static final int DEEPEST = 5;
    private static final int MOST_DIGITS = 4;
    /** A letter's place here is its place in Script.values. */
    private static final String LETTERS = "wgsthqb";
    private static final int WIND = 0;
    private static final int SUN = 2;
    private static final int TAKES = 3;
    private static final int HIT = 4;
    private static final int QUARREL = 5;
    private static final int LOST = 6;

    private static final int MOST_RAMPS = 8;
    private static final int MOST_SPEED = 99;

    private static final int DOUBLES = 4;
    private static final int MOST_SHOTS = 7;
    private static final int MOST_IN_ROW = 12;
    private static final int MARK_DIGITS = 5;
    private static final int MOST_MARKS = 99999;
    private static final int MOST_UNLIKE = 2;

    private static final int GROUNDS = 4;
    private static final int LAST_DAY = 999;
    private static final int MOST_RUNS = 60;
    private static final int MOST_PLANS = 20;
    private static final int GRIP_WITHOUT_RUNS = 20;

    private final int[] refusals = new int[7];
    private final Stage stage = new Stage();
    private final Crew crew = new Crew();
    private final Script script = new Script();
    private final Ramps ramps = new Ramps();
    private final Day shots = new Day();
    private final Casting casting = new Casting();
    private final Tables tables = new Tables();

    public StuntSet() {
    }

    // ---- I. The set, movers, hits, aborts

    public int cover(int cell, boolean on) {
        if (!isCell(cell)) {
            return refuse(NOBODY);
        }
        return setBit(stage.covered, cell, on);
    }

    public int safe(int cell, boolean on) {
        if (!isCell(cell)) {
            return refuse(NOBODY);
        }
        return setBit(stage.havens, cell, on);
    }

    public int mover(int kind, int size, int cell, int cue, int slip) {
        if (kind != BODY && kind != CAR) {
            return refuse(OTHER);
        }
        if (!isCell(cell)) {
            return refuse(NOBODY);
        }
        if (size < 0 || cue < 0 || slip < 0) {
            return refuse(BELOW);
        }
        if (size > MOST_SIZE || cue > LAST_TENTH || slip > MOST_SLIP || stage.moverCount >= MOST_MOVERS) {
            return refuse(ROOM);
        }
        return stage.addMover(new Mover(kind, size, cell, cue, slip));
    }

    public int leg(int mover, int direction, int cells, int pace, int rest) {
        Mover m = stage.moverAt(mover);
        if (m == null) {
            return refuse(NOBODY);
        }
        if (!isDirection(direction)) {
            return refuse(OTHER);
        }
        if (cells < 1 || pace < 1 || rest < 0) {
            return refuse(BELOW);
        }
        if (cells >= SIDE || pace > MOST_PACE || rest > MOST_WAIT || m.legCount >= MOST_LEGS) {
            return refuse(ROOM);
        }
        if (!m.staysOnSet(direction, cells)) {
            return refuse(STATE);
        }
        stage.forgetHits(mover);
        return m.addLeg(direction, cells, pace, rest);
    }

    public int cue(int mover, int tenth, int slip) {
        Mover m = stage.moverAt(mover);
        if (m == null) {
            return refuse(NOBODY);
        }
        if (tenth < 0 || slip < 0) {
            return refuse(BELOW);
        }
        if (tenth > LAST_TENTH || slip > MOST_SLIP) {
            return refuse(ROOM);
        }
        stage.forgetHits(mover);
        return m.setCue(tenth, slip);
    }

    public int place(int mover, int tenth, int late) {
        Mover m = stage.moverAt(mover);
        if (m == null) {
            return refuse(NOBODY);
        }
        if (tenth < 0 || late < 0) {
            return refuse(BELOW);
        }
        if (tenth > LAST_TENTH || late > m.slip) {
            return refuse(ROOM);
        }
        return m.cellAt(tenth - late);
    }

    public int hit(int a, int b) {
        if (stage.moverAt(a) == null || stage.moverAt(b) == null || a == b) {
            return refuse(NOBODY);
        }
        int tenth = stage.hitOf(Math.min(a, b), Math.max(a, b));
        return tenth > LAST_TENTH ? NONE : tenth;
    }

    public int firstHit(int what) {
        if (what < 0 || what > 2) {
            return refuse(OTHER);
        }
        if (!stage.findFirstHit()) {
            return NONE;
        }
        if (what == 0) {
            return stage.hitTenth;
        }
        return what == 1 ? stage.hitMover : stage.hitOther;
    }

    public int stride(int tenths) {
        if (tenths < 1) {
            return refuse(BELOW);
        }
        if (tenths > MOST_STRIDE) {
            return refuse(ROOM);
        }
        int was = stage.strideTenths;
        stage.strideTenths = tenths;
        return was;
    }

    public int danger(int mover, int cell, int tenth) {
        Mover m = stage.moverAt(mover);
        if (m == null || !isCell(cell)) {
            return refuse(NOBODY);
        }
        if (m.kind != BODY) {
            return refuse(OTHER);
        }
        if (tenth < 0) {
            return refuse(BELOW);
        }
        if (tenth > LAST_TENTH) {
            return refuse(ROOM);
        }
        return stage.isDanger(m.size, cell, tenth) ? 1 : 0;
    }

    public int abort(int tenth) {
        if (tenth < 0) {
            return refuse(BELOW);
        }
        if (tenth > LAST_TENTH) {
            return refuse(ROOM);
        }
        return stage.lostAt(tenth);
    }

    public int saved(int mover, int tenth) {
        Mover m = stage.moverAt(mover);
        if (m == null) {
            return refuse(NOBODY);
        }
        if (m.kind != BODY) {
            return refuse(OTHER);
        }
        if (tenth < 0) {
            return refuse(BELOW);
        }
        if (tenth > LAST_TENTH) {
            return refuse(ROOM);
        }
        return stage.escape(m, tenth);
    }

    // ---- II. Cameras

    public int camera(int cell, int direction, int wide, int reach, int from, int to) {
        if (!isCell(cell)) {
            return refuse(NOBODY);
        }
        if (!isDirection(direction)) {
            return refuse(OTHER);
        }
        if (wide < 0 || reach < 1 || from < 0 || to < 0 || to < from) {
            return refuse(BELOW);
        }
        if (wide > MOST_WIDE || reach >= SIDE || from > LAST_TENTH || to > LAST_TENTH
                || crew.cameraCount >= MOST_CAMERAS) {
            return refuse(ROOM);
        }
        return crew.addCamera(new Camera(cell, direction, wide, reach, from, to));
    }

    public int sees(int camera, int cell) {
        Camera c = crew.cameraAt(camera);
        if (c == null || !isCell(cell)) {
            return refuse(NOBODY);
        }
        return c.views(cell, stage.covered) ? 1 : 0;
    }

    public int quarrels(int what) {
        if (what < 0 || what > 2) {
            return refuse(OTHER);
        }
        int pairs = crew.findQuarrels(stage.covered);
        if (what == 0) {
            return pairs;
        }
        if (pairs == 0) {
            return NONE;
        }
        return what == 1 ? crew.quarrelLesser : crew.quarrelOther;
    }

    public int picture(int camera, int tenth) {
        Camera c = crew.cameraAt(camera);
        if (c == null) {
            return refuse(NOBODY);
        }
        if (tenth < 0) {
            return refuse(BELOW);
        }
        if (tenth > LAST_TENTH) {
            return refuse(ROOM);
        }
        return c.moversInView(stage, tenth);
    }

    // ---- III. Texts

    public int tell(int what, int v) {
        if (what < WIND || what > SUN) {
            return refuse(OTHER);
        }
        if (v < 0) {
            return refuse(BELOW);
        }
        if (v > (what == SUN ? 999 : 99)) {
            return refuse(ROOM);
        }
        int was = script.values[what];
        script.values[what] = v;
        return was;
    }

    public int feed(int n, long bytes) {
        if (n < 1) {
            return refuse(BELOW);
        }
        if (n > 8 || script.tape.length + n > TAPE_ROOM) {
            return refuse(ROOM);
        }
        return script.tape.append(n, bytes);
    }

    public int text(int call) {
        if (call < 0 || call >= CALLS) {
            return refuse(NOBODY);
        }
        if (script.told >= MOST_TEXTS) {
            return refuse(ROOM);
        }
        return script.takeTape(call);
    }

    public int lets(int call) {
        if (call < 0 || call >= CALLS) {
            return refuse(NOBODY);
        }
        return script.isLet(call, stage, crew) ? 1 : 0;
    }

    public int take() {
        if (!script.isLet(0, stage, crew)) {
            return refuse(STATE);
        }
        script.values[TAKES]++;
        return script.values[TAKES];
    }

    // ---- IV. Ramps, falls, fire

    public int ramp(int rise, int run, int gap, int length) {
        if (rise < 1 || run < 1 || gap < 1 || length < 1) {
            return refuse(BELOW);
        }
        if (rise > 99 || run > 99 || gap > 999 || length > 999 || ramps.rampCount >= MOST_RAMPS) {
            return refuse(ROOM);
        }
        return ramps.addRamp(rise, run, gap, length);
    }

    public int lands(int ramp, int speed) {
        if (ramp < 0 || ramp >= ramps.rampCount) {
            return refuse(NOBODY);
        }
        if (speed < 1) {
            return refuse(BELOW);
        }
        if (speed > MOST_SPEED) {
            return refuse(ROOM);
        }
        return ramps.landing(ramp, speed);
    }

    public int speeds(int ramp, int what) {
        if (ramp < 0 || ramp >= ramps.rampCount) {
            return refuse(NOBODY);
        }
        if (what < 0 || what > 2) {
            return refuse(OTHER);
        }
        return ramps.landingSpeeds(ramp, what);
    }

    public int bags(int height, int jolt) {
        if (height < 1 || jolt < 1) {
            return refuse(BELOW);
        }
        if (height > 999 || jolt > 99) {
            return refuse(ROOM);
        }
        return cutUp(height * 10, jolt);
    }

    public int fire(int gel, int heat, int burns, int out) {
        if (gel < 0 || heat < 1 || burns < 0 || out < 0) {
            return refuse(BELOW);
        }
        if (gel > 99 || heat > 9 || burns > 999 || out > 999) {
            return refuse(ROOM);
        }
        int both = burns + out;
        return gel * 30 / heat > both + cutUp(both, 10) ? 1 : 0;
    }

    // ---- V. Shots, orders, marks

    public int shot(int twin, int minutes, int from, int to, int risk, int tired) {
        if (twin < 0 || twin >= DOUBLES) {
            return refuse(NOBODY);
        }
        if (minutes < 1 || from < 0 || to < 0 || to < from || risk < 0 || tired < 0) {
            return refuse(BELOW);
        }
        if (minutes > 300 || from > 999 || to > 999 || risk > 999 || tired > 99
                || shots.shotCount >= MOST_SHOTS) {
            return refuse(ROOM);
        }
        return shots.addShot(twin, minutes, from, to, risk, tired);
    }

    public int best(int what) {
        if (what < 0 || what > MOST_SHOTS + 1) {
            return refuse(OTHER);
        }
        return shots.ofBest(what);
    }

    public int put(int v) {
        if (v < -128) {
            return refuse(BELOW);
        }
        if (v > 127 || shots.rowCount >= MOST_IN_ROW) {
            return refuse(ROOM);
        }
        return shots.addToRow(v);
    }

    public int judge() {
        int wrong = shots.firstWrong();
        shots.rowCount = 0;
        return wrong;
    }

    public int marks(int who, int digits) {
        if (who < 0 || who >= 2 * DOUBLES) {
            return MARKS_REFUSED - refuse(NOBODY);
        }
        if (digits < -1) {
            return MARKS_REFUSED - refuse(BELOW);
        }
        if (digits > MOST_MARKS) {
            return MARKS_REFUSED - refuse(ROOM);
        }
        return casting.setMarks(who, digits);
    }

    public int matched(int star) {
        if (star < 0 || star >= DOUBLES) {
            return refuse(NOBODY);
        }
        return casting.doubleOf(star);
    }

    // ---- VI. Runs, grip, plans

    public int days(int n) {
        if (n < 1) {
            return refuse(BELOW);
        }
        if (n > LAST_DAY - tables.today) {
            return refuse(ROOM);
        }
        tables.today += n;
        return tables.today;
    }

    public int run(int ground, int speed, int stop) {
        if (!isGround(ground)) {
            return refuse(NOBODY);
        }
        if (speed < 1 || stop < 1) {
            return refuse(BELOW);
        }
        if (speed > MOST_SPEED || stop > 9999 || tables.runCount >= MOST_RUNS) {
            return refuse(ROOM);
        }
        return tables.addRun(ground, speed, stop);
    }

    public int takeBack(int run) {
        if (run < 0 || run >= tables.runCount) {
            return refuse(NOBODY);
        }
        if (tables.backOn[run] != Tables.NEVER) {
            return refuse(STATE);
        }
        tables.backOn[run] = tables.today;
        return 1;
    }

    public int grip(int ground, int k) {
        if (!isGround(ground)) {
            return refuse(NOBODY);
        }
        if (k < 0) {
            return refuse(BELOW);
        }
        if (k > LAST_DAY) {
            return refuse(ROOM);
        }
        return tables.gripOn(ground, k);
    }

    public int stop(int ground, int speed, int k) {
        if (!isGround(ground)) {
            return refuse(NOBODY);
        }
        if (speed < 1 || k < 0) {
            return refuse(BELOW);
        }
        if (speed > MOST_SPEED || k > LAST_DAY) {
            return refuse(ROOM);
        }
        return tables.stopOn(ground, speed, k);
    }

    public int plan(int ground, int speed, int room) {
        if (!isGround(ground)) {
            return refuse(NOBODY);
        }
        if (speed < 1 || room < 1) {
            return refuse(BELOW);
        }
        if (speed > MOST_SPEED || room > 99999 || tables.planCount >= MOST_PLANS) {
            return refuse(ROOM);
        }
        return tables.addPlan(ground, speed, room);
    }

    public int good(int plan, int k) {
        if (plan < 0 || plan >= tables.planCount) {
            return refuse(NOBODY);
        }
        if (k < 0) {
            return refuse(BELOW);
        }
        if (k > LAST_DAY) {
            return refuse(ROOM);
        }
        return tables.isGood(plan, k) ? 1 : 0;
    }

    public int overtaken() {
        return tables.firstOvertaken();
    }

    public int count(int what) {
        switch (what) {
            case 0: return stage.moverCount;
            case 1: return crew.cameraCount;
            case 2: return script.told;
            case 3: return script.values[TAKES];
            case 4: return ramps.rampCount;
            case 5: return shots.shotCount;
            case 6: return tables.runsNow();
            case 7: return tables.planCount;
            case 8: return tables.today;
            case 9: return script.tape.length;
            case 10: return shots.rowCount;
            case 17: return stage.havenCount();
            default: return what >= 11 && what <= 16 ? refusals[what - 10] : NONE;
        }
    }

    /** Counts the refusal: its amount is its place in refusals. */
    private int refuse(int number) {
        if (number < 0 && -number < refusals.length) {
            refusals[-number]++;
        }
        return number;
    }

    private static boolean isCell(int cell) {
        return cell >= 0 && cell < CELLS;
    }

    private static boolean isDirection(int direction) {
        return direction >= 0 && direction < DIRECTION_X.length;
    }

    private static boolean isGround(int ground) {
        return ground >= 0 && ground < GROUNDS;
    }

    private static int far(int cell, int other) {
        int dx = Math.abs(cell % SIDE - other % SIDE);
        int dy = Math.abs(cell / SIDE - other / SIDE);
        return Math.max(dx, dy);
    }

    /** A quotient of numbers from 0 on, cut up; a divisor below 1 is none and counts as 1. */
    private static int cutUp(int number, int by) {
        int divisor = Math.max(1, by);
        return (number + divisor - 1) / divisor;
    }

    /** Cells are held as bits x of rows y, so that a whole row is moved or masked at once. */
    private static boolean hasBit(int[] rows, int cell) {
        return isCell(cell) && (rows[cell / SIDE] >> (cell % SIDE) & 1) != 0;
    }

    /** 1 if this changed the cell's bit, else 0. */
    private static int setBit(int[] rows, int cell, boolean on) {
        if (!isCell(cell) || hasBit(rows, cell) == on) {
            return 0;
        }
        rows[cell / SIDE] ^= 1 << (cell % SIDE);
        return 1;
    }

    /** A body or a car, with its way reckoned once for every tenth. */
    private static final class Mover {
        final int kind;
        final int size;
        final int start;
        int cueTenth;
        int slip;
        int legCount;
        int end;
        /** The tenth of its last step, 0 without one; it may be behind the last of all. */
        int lastStep;
        final int[] directions = new int[MOST_LEGS];
        final int[] lengths = new int[MOST_LEGS];
        final int[] paces = new int[MOST_LEGS];
        final int[] waits = new int[MOST_LEGS];
        /** Where it is at each tenth without being late; late by l is the same l tenths later. */
        final int[] path = new int[LAST_TENTH + 1];

        Mover(int kind, int size, int start, int cueTenth, int slip) {
            this.kind = kind;
            this.size = size;
            this.start = start;
            this.cueTenth = cueTenth;
            this.slip = slip;
            this.end = start;
            walk();
        }

        boolean staysOnSet(int direction, int cells) {
            int x = end % SIDE + cells * DIRECTION_X[direction];
            int y = end / SIDE + cells * DIRECTION_Y[direction];
            return x >= 0 && x < SIDE && y >= 0 && y < SIDE;
        }

        int addLeg(int direction, int cells, int pace, int wait) {
            directions[legCount] = direction;
            lengths[legCount] = cells;
            paces[legCount] = pace;
            waits[legCount] = wait;
            legCount++;
            end += cells * cellStep(direction);
            walk();
            return legCount;
        }

        int setCue(int tenth, int newSlip) {
            int was = cueTenth;
            cueTenth = tenth;
            slip = newSlip;
            walk();
            return was;
        }

        /** Before tenth 0 it stands where it starts, as at tenth 0: no cue is sooner. */
        int cellAt(int tenth) {
            return path[Math.min(LAST_TENTH, Math.max(0, tenth))];
        }

        boolean moves(int tenth) {
            return tenth > 0 && tenth < path.length && path[tenth] != path[tenth - 1];
        }

        private void walk() {
            int cell = start;
            int filled = 0;
            int time = cueTenth;
            for (int leg = 0; leg < legCount; leg++) {
                for (int i = 0; i < lengths[leg]; i++) {
                    time += paces[leg];
                    filled = fillPath(filled, time, cell);
                    cell += cellStep(directions[leg]);
                    lastStep = time;
                }
                time += waits[leg];
            }
            fillPath(filled, path.length, cell);
        }

        /** It is in the cell until that tenth: the first tenth that is still to be filled. */
        private int fillPath(int from, int until, int cell) {
            int end = Math.min(until, path.length);
            for (int tenth = from; tenth < end; tenth++) {
                path[tenth] = cell;
            }
            return Math.max(from, end);
        }

        private static int cellStep(int direction) {
            return SIDE * DIRECTION_Y[direction] + DIRECTION_X[direction];
        }
    }

    /** The set with its cover, its safe cells and its movers. */
    private static final class Stage {
        private static final int NOT_RECKONED = -1;

        final int[] covered = new int[SIDE];
        final int[] havens = new int[SIDE];
        final Mover[] movers = new Mover[MOST_MOVERS];
        int moverCount;
        int strideTenths = FIRST_STRIDE;
        /** The hit of mover a and a greater b at 12 a and b: NOT_RECKONED until it is asked for. */
        private final int[] hits = new int[MOST_MOVERS * MOST_MOVERS];
        int hitTenth;
        int hitMover;
        int hitOther;
        /** Rows for escape(): where a body may be, may be next, and must not be. */
        private final int[] reach = new int[SIDE];
        private final int[] next = new int[SIDE];
        private final int[] harm = new int[SIDE];

        int addMover(Mover mover) {
            movers[moverCount] = mover;
            moverCount++;
            forgetHits(moverCount - 1);
            return moverCount - 1;
        }

        /** null if there is no such mover. */
        Mover moverAt(int number) {
            return number >= 0 && number < moverCount ? movers[number] : null;
        }

        int havenCount() {
            int cells = 0;
            for (int y = 0; y < SIDE; y++) {
                cells += Integer.bitCount(havens[y]);
            }
            return cells;
        }

        /** Whether the mover, with some late, is so near the cell at the tenth. */
        private boolean comesNear(Mover mover, int cell, int tenth, int near) {
            int seen = -1;
            for (int late = 0; late <= mover.slip; late++) {
                int place = mover.cellAt(tenth - late);
                if (place != seen && far(cell, place) <= near) {
                    return true;
                }
                seen = place;
            }
            return false;
        }

        /** The way of a mover is a new one. */
        void forgetHits(int mover) {
            for (int other = 0; other < MOST_MOVERS; other++) {
                hits[MOST_MOVERS * mover + other] = NOT_RECKONED;
                hits[MOST_MOVERS * other + mover] = NOT_RECKONED;
            }
        }

        /** The first tenth at which two hit, above LAST_TENTH if never; it is kept, since it is dear. */
        int hitOf(int lesser, int greater) {
            int at = MOST_MOVERS * lesser + greater;
            if (hits[at] == NOT_RECKONED) {
                hits[at] = firstMeeting(movers[lesser], movers[greater]);
            }
            return hits[at];
        }

        /**
         * Two places that are both late were there a tenth sooner, both less late: so only a place that
         * is new at a tenth is looked at, against all lates of the other.
         */
        private int firstMeeting(Mover a, Mover b) {
            int near = a.size + b.size;
            if (far(a.start, b.start) <= near) {
                return 0;
            }
            int last = Math.min(LAST_TENTH, Math.max(a.lastStep, b.lastStep));
            for (int tenth = Math.min(a.cueTenth, b.cueTenth) + 1; tenth <= last; tenth++) {
                if (a.moves(tenth) && comesNear(b, a.cellAt(tenth), tenth, near)) {
                    return tenth;
                }
                if (b.moves(tenth) && comesNear(a, b.cellAt(tenth), tenth, near)) {
                    return tenth;
                }
            }
            return LAST_TENTH + 1;
        }

        /** Whether there is a first hit, which then stands in hitTenth, hitMover and hitOther. */
        boolean findFirstHit() {
            hitTenth = LAST_TENTH + 1;
            for (int a = 0; a < moverCount; a++) {
                for (int b = a + 1; b < moverCount; b++) {
                    boolean withCar = movers[a].kind == CAR || movers[b].kind == CAR;
                    if (withCar && hitOf(a, b) < hitTenth) {
                        hitTenth = hitOf(a, b);
                        hitMover = a;
                        hitOther = b;
                    }
                }
            }
            return hitTenth <= LAST_TENTH;
        }

        boolean isDanger(int size, int cell, int tenth) {
            for (int i = 0; i < moverCount; i++) {
                Mover m = movers[i];
                if (m.kind == CAR && comesNear(m, cell, tenth, size + m.size)) {
                    return true;
                }
            }
            return false;
        }

        /** How many bodies are not saved at an abort. */
        int lostAt(int tenth) {
            int lost = 0;
            for (int i = 0; i < moverCount; i++) {
                if (movers[i].kind == BODY && escape(movers[i], tenth) == NONE) {
                    lost++;
                }
            }
            return lost;
        }

        /** The tenth at which a body can be in a safe cell at soonest after an abort, or NONE. */
        int escape(Mover body, int tenth) {
            for (int y = 0; y < SIDE; y++) {
                reach[y] = 0;
            }
            setBit(reach, body.cellAt(tenth), true);
            int ofStride = 0;
            for (int gone = 0; gone <= TIME_TO_RUN; gone++) {
                boolean strideOver = ofStride == strideTenths;
                if (strideOver) {
                    spreadReach();
                    ofStride = 0;
                }
                ofStride++;
                if (tenth + gone <= LAST_TENTH) {
                    markHarm(body.size, tenth + gone);
                }
                if (!leaveHarm()) {
                    return NONE;
                }
                if ((strideOver || gone == 0) && reachesHaven()) {
                    return tenth + gone;
                }
            }
            return NONE;
        }

        /** A body may stay, even under cover, or go to a cell beside without cover. */
        private void spreadReach() {
            for (int y = 0; y < SIDE; y++) {
                int wide = reach[y];
                if (y > 0) {
                    wide |= reach[y - 1];
                }
                if (y < SIDE - 1) {
                    wide |= reach[y + 1];
                }
                wide |= wide << 1 | wide >> 1;
                next[y] = wide & ALL_OF_ROW & ~covered[y] | reach[y];
            }
            for (int y = 0; y < SIDE; y++) {
                reach[y] = next[y];
            }
        }

        /** The cells in which a car, with some late, is a danger to a body of that size. */
        private void markHarm(int size, int tenth) {
            for (int y = 0; y < SIDE; y++) {
                harm[y] = 0;
            }
            for (int i = 0; i < moverCount; i++) {
                if (movers[i].kind == CAR) {
                    markHarmOf(movers[i], size, tenth);
                }
            }
        }

        private void markHarmOf(Mover car, int size, int tenth) {
            int marked = -1;
            for (int late = 0; late <= car.slip; late++) {
                int cell = car.cellAt(tenth - late);
                if (cell != marked) {
                    markSquare(cell, size + car.size);
                    marked = cell;
                }
            }
        }

        private void markSquare(int cell, int near) {
            int x = cell % SIDE;
            int y = cell / SIDE;
            int left = Math.max(0, x - near);
            int right = Math.min(SIDE - 1, x + near);
            int bits = (1 << (right - left + 1)) - 1 << left;
            int last = Math.min(SIDE - 1, y + near);
            for (int row = Math.max(0, y - near); row <= last; row++) {
                harm[row] |= bits;
            }
        }

        /** Whether some cell of reach is without harm; the others are taken out of it. */
        private boolean leaveHarm() {
            boolean left = false;
            for (int y = 0; y < SIDE; y++) {
                reach[y] &= ~harm[y];
                left = left || reach[y] != 0;
            }
            return left;
        }

        private boolean reachesHaven() {
            for (int y = 0; y < SIDE; y++) {
                if ((reach[y] & havens[y]) != 0) {
                    return true;
                }
            }
            return false;
        }
    }

    /** One camera and what it sees. */
    private static final class Camera {
        final int cell;
        final int direction;
        final int wide;
        final int reach;
        final int from;
        final int to;

        Camera(int cell, int direction, int wide, int reach, int from, int to) {
            this.cell = cell;
            this.direction = direction;
            this.wide = wide;
            this.reach = reach;
            this.from = from;
            this.to = to;
        }

        boolean isOn(int tenth) {
            return tenth >= from && tenth <= to;
        }

        boolean views(int target, int[] covered) {
            int dx = target % SIDE - cell % SIDE;
            int dy = target / SIDE - cell / SIDE;
            int n = far(cell, target);
            if (n == 0 || n > reach) {
                return false;
            }
            int along = dx * DIRECTION_X[direction] + dy * DIRECTION_Y[direction];
            int across = dx * DIRECTION_Y[direction] - dy * DIRECTION_X[direction];
            if (along <= 0 || 2 * Math.abs(across) > wide * along) {
                return false;
            }
            return isOpen(dx, dy, n, covered);
        }

        /** No cover between its own cell and the one that is dx, dy away; n, at least 1, is how far. */
        private boolean isOpen(int dx, int dy, int n, int[] covered) {
            for (int i = 1; i < n; i++) {
                int x = cell % SIDE + Math.floorDiv(2 * i * dx + n, 2 * n);
                int y = cell / SIDE + Math.floorDiv(2 * i * dy + n, 2 * n);
                if (hasBit(covered, SIDE * y + x)) {
                    return false;
                }
            }
            return true;
        }

        /** The movers in its picture, as bits. */
        int moversInView(Stage stage, int tenth) {
            if (!isOn(tenth)) {
                return 0;
            }
            int bits = 0;
            for (int i = 0; i < stage.moverCount; i++) {
                if (views(stage.movers[i].cellAt(tenth), stage.covered)) {
                    bits |= 1 << i;
                }
            }
            return bits;
        }

        boolean quarrelsWith(Camera other, int[] covered) {
            if (Math.max(from, other.from) > Math.min(to, other.to)) {
                return false;
            }
            return views(other.cell, covered) || other.views(cell, covered);
        }
    }

    /** All cameras and their quarrels. */
    private static final class Crew {
        final Camera[] cameras = new Camera[MOST_CAMERAS];
        int cameraCount;
        int quarrelLesser;
        int quarrelOther;

        int addCamera(Camera camera) {
            cameras[cameraCount] = camera;
            cameraCount++;
            return cameraCount - 1;
        }

        /** null if there is no such camera. */
        Camera cameraAt(int number) {
            return number >= 0 && number < cameraCount ? cameras[number] : null;
        }

        /** How many two quarrel; the first two stand in quarrelLesser and quarrelOther. */
        int findQuarrels(int[] covered) {
            int pairs = 0;
            for (int a = 0; a < cameraCount; a++) {
                for (int b = a + 1; b < cameraCount; b++) {
                    if (cameras[a].quarrelsWith(cameras[b], covered)) {
                        if (pairs == 0) {
                            quarrelLesser = a;
                            quarrelOther = b;
                        }
                        pairs++;
                    }
                }
            }
            return pairs;
        }
    }

    /** Bytes that are read as a text: for their fault, and for whether it holds. */
    private static final class Text {
        static final int NO_FAULT = -1;

        final byte[] bytes = new byte[TAPE_ROOM];
        int length;
        private int at;
        int fault = NO_FAULT;
        private int[] values;

        int append(int n, long more) {
            for (int i = 0; i < n && length < bytes.length; i++) {
                bytes[length] = (byte) (more >> (8 * i));
                length++;
            }
            return length;
        }

        void copyFrom(Text other) {
            for (int i = 0; i < other.length; i++) {
                bytes[i] = other.bytes[i];
            }
            length = other.length;
        }

        boolean mentions(int letter) {
            for (int i = 0; i < length; i++) {
                if (bytes[i] == LETTERS.charAt(letter)) {
                    return true;
                }
            }
            return false;
        }

        /** Whether the text holds; what is wrong in it stands in fault then. */
        boolean holds(int[] letterValues) {
            values = letterValues;
            at = 0;
            fault = NO_FAULT;
            boolean held = ors(0);
            if (at < length) {
                failAt(at);
            }
            return held && fault == NO_FAULT;
        }

        /** ORS with its ANDS in one loop; behind a fault no sign is accepted, so that it ends. */
        private boolean ors(int deep) {
            boolean any = false;
            boolean all = true;
            boolean more = true;
            for (int i = 0; i <= TAPE_ROOM && more; i++) {
                boolean held = test(deep);
                all = all && held;
                more = accept('&');
                if (!more) {
                    any = any || all;
                    all = true;
                    more = accept('|');
                }
            }
            return any;
        }

        private boolean test(int deep) {
            if (deep >= DEEPEST && (isNext('!') || isNext('('))) {
                failAt(at);
                return false;
            }
            if (accept('!')) {
                return !test(deep + 1);
            }
            if (!accept('(')) {
                return comparison();
            }
            boolean held = ors(deep + 1);
            if (!accept(')')) {
                failAt(at);
            }
            return held;
        }

        private boolean comparison() {
            int left = unit();
            boolean less = accept('<');
            boolean same = !less && accept('=');
            boolean more = !less && !same && accept('>');
            if (!less && !same && !more) {
                failAt(at);
            }
            int right = unit();
            return less && left < right || same && left == right || more && left > right;
        }

        private int unit() {
            if (fault != NO_FAULT) {
                return 0;
            }
            int number = 0;
            int digits = 0;
            while (digits < MOST_DIGITS && at < length && bytes[at] >= '0' && bytes[at] <= '9') {
                number = 10 * number + bytes[at] - '0';
                at++;
                digits++;
            }
            if (digits > 0) {
                return number;
            }
            int letter = at < length ? LETTERS.indexOf((char) (bytes[at] & 255)) : -1;
            if (letter < 0 || letter >= values.length) {
                failAt(at);
                return 0;
            }
            at++;
            return values[letter];
        }

        private boolean isNext(char sign) {
            return fault == NO_FAULT && at < length && bytes[at] == sign;
        }

        private boolean accept(char sign) {
            boolean next = isNext(sign);
            if (next) {
                at++;
            }
            return next;
        }

        /** The first fault is the one that is told. */
        private void failAt(int place) {
            if (fault == NO_FAULT) {
                fault = place;
            }
        }
    }

    /** The tape, the texts in force and what their letters stand for. */
    private static final class Script {
        final Text tape = new Text();
        /** null for a call that was told none. */
        private final Text[] inForce = new Text[CALLS];
        int told;
        final int[] values = new int[7];

        /** How many texts were told, or the fault; the tape has none then. */
        int takeTape(int call) {
            tape.holds(values);
            if (tape.fault != Text.NO_FAULT) {
                tape.length = 0;
                return FAULT_BASE - tape.fault;
            }
            if (inForce[call] == null) {
                inForce[call] = new Text();
            }
            inForce[call].copyFrom(tape);
            tape.length = 0;
            told++;
            return told;
        }

        /** Only what the text mentions is reckoned, since hits and aborts are dear. */
        boolean isLet(int call, Stage stage, Crew crew) {
            Text text = inForce[call];
            if (text == null) {
                return call != 0;
            }
            if (text.mentions(HIT)) {
                values[HIT] = stage.findFirstHit() ? 1 : 0;
            }
            if (text.mentions(QUARREL)) {
                values[QUARREL] = crew.findQuarrels(stage.covered);
            }
            if (text.mentions(LOST)) {
                Mover first = stage.moverAt(0);
                values[LOST] = first == null ? 0 : stage.lostAt(first.cueTenth);
            }
            return text.holds(values);
        }
    }

    /** Ramps and the speeds that land from them. */
    private static final class Ramps {
        private final int[] rises = new int[MOST_RAMPS];
        private final int[] runs = new int[MOST_RAMPS];
        private final int[] gaps = new int[MOST_RAMPS];
        private final int[] lengths = new int[MOST_RAMPS];
        int rampCount;

        int addRamp(int rise, int run, int gap, int length) {
            rises[rampCount] = rise;
            runs[rampCount] = run;
            gaps[rampCount] = gap;
            lengths[rampCount] = length;
            rampCount++;
            return rampCount - 1;
        }

        /**
         * Behind n tenths the height is n times UP less n times n - 1, which is 0 or less
         * from n = UP and 1 on.
         */
        int landing(int ramp, int speed) {
            int up = speed * rises[ramp] / Math.max(1, runs[ramp]);
            return speed * (up + 1);
        }

        int landingSpeeds(int ramp, int what) {
            int many = 0;
            int least = NONE;
            int greatest = NONE;
            for (int speed = 1; speed <= MOST_SPEED; speed++) {
                int where = landing(ramp, speed);
                if (where >= gaps[ramp] && where <= gaps[ramp] + lengths[ramp]) {
                    least = many == 0 ? speed : least;
                    greatest = speed;
                    many++;
                }
            }
            if (what == 0) {
                return many;
            }
            return what == 1 ? least : greatest;
        }
    }

    /** A day's shots, their best order and the row that is judged. */
    private static final class Day {
        private final int[] twins = new int[MOST_SHOTS];
        private final int[] minutes = new int[MOST_SHOTS];
        private final int[] from = new int[MOST_SHOTS];
        private final int[] to = new int[MOST_SHOTS];
        private final int[] risks = new int[MOST_SHOTS];
        private final int[] tired = new int[MOST_SHOTS];
        int shotCount;
        private final int[] order = new int[MOST_SHOTS];
        private final int[] bestOrder = new int[MOST_SHOTS];
        /** Without shots the empty order is the best. */
        private boolean hasBest = true;
        private int bestRisk;
        private int bestEnd;
        private final int[] row = new int[MOST_IN_ROW];
        int rowCount;

        /** The best order is reckoned here and not where it is asked for: shots are few, questions many. */
        int addShot(int twin, int takes, int begin, int end, int risk, int more) {
            twins[shotCount] = twin;
            minutes[shotCount] = takes;
            from[shotCount] = begin;
            to[shotCount] = end;
            risks[shotCount] = risk;
            tired[shotCount] = more;
            shotCount++;
            hasBest = false;
            search(0, 0, 0, 0);
            return shotCount - 1;
        }

        int ofBest(int what) {
            if (!hasBest || what - 2 >= shotCount) {
                return NONE;
            }
            if (what == 0) {
                return bestRisk;
            }
            return what == 1 ? bestEnd : bestOrder[what - 2];
        }

        /** Goes through the orders by numbers, so that the first of equals is the one that is kept. */
        private void search(int placed, int used, int end, int risk) {
            if (placed >= shotCount || placed >= MOST_SHOTS) {
                keepBetter(end, risk);
                return;
            }
            for (int shot = 0; shot < shotCount; shot++) {
                int over = overAt(shot, end);
                if ((used >> shot & 1) == 0 && over <= to[shot]) {
                    order[placed] = shot;
                    search(placed + 1, used | 1 << shot, over, risk + riskBehind(shot, used));
                }
            }
        }

        private int overAt(int shot, int end) {
            return Math.max(end, from[shot]) + minutes[shot];
        }

        private int riskBehind(int shot, int used) {
            int risk = risks[shot];
            for (int ahead = 0; ahead < shotCount; ahead++) {
                if ((used >> ahead & 1) != 0 && twins[ahead] == twins[shot]) {
                    risk += tired[shot];
                }
            }
            return risk;
        }

        private void keepBetter(int end, int risk) {
            if (hasBest && (risk > bestRisk || risk == bestRisk && end >= bestEnd)) {
                return;
            }
            hasBest = true;
            bestRisk = risk;
            bestEnd = end;
            for (int i = 0; i < shotCount; i++) {
                bestOrder[i] = order[i];
            }
        }

        int addToRow(int v) {
            row[rowCount] = v;
            rowCount++;
            return rowCount;
        }

        /** The row's first wrong place, or NONE; behind all shots any byte is no shot or there twice. */
        int firstWrong() {
            int used = 0;
            int end = 0;
            for (int i = 0; i < rowCount; i++) {
                int shot = row[i];
                if (shot < 0 || shot >= shotCount || (used >> shot & 1) != 0) {
                    return i;
                }
                end = overAt(shot, end);
                if (end > to[shot]) {
                    return i;
                }
                used |= 1 << shot;
            }
            return rowCount < shotCount ? rowCount : NONE;
        }
    }

    /** Marks of doubles (0 .. 3) and stars (4 .. 7), and how they match. */
    private static final class Casting {
        private static final int NO_MARKS = -1;

        private final int[] marksOf = {-1, -1, -1, -1, -1, -1, -1, -1};
        private final int[] pick = new int[DOUBLES];
        private final int[] bestPick = {NONE, NONE, NONE, NONE};
        private int bestPairs;
        private int bestUnlike;

        int setMarks(int who, int digits) {
            int were = marksOf[who];
            marksOf[who] = digits;
            return were;
        }

        int doubleOf(int star) {
            bestPairs = -1;
            bestUnlike = 0;
            pickFor(0, 0, 0, 0);
            return bestPick[star];
        }

        /** Tries the least double first and none last, so that the first of equals is the one kept. */
        private void pickFor(int star, int used, int pairs, int unlike) {
            if (star >= DOUBLES) {
                keepBetter(pairs, unlike);
                return;
            }
            for (int d = 0; d < DOUBLES; d++) {
                int more = unlikeness(marksOf[d], marksOf[DOUBLES + star]);
                if ((used >> d & 1) == 0 && more <= MOST_UNLIKE) {
                    pick[star] = d;
                    pickFor(star + 1, used | 1 << d, pairs + 1, unlike + more);
                }
            }
            pick[star] = NONE;
            pickFor(star + 1, used, pairs, unlike);
        }

        private void keepBetter(int pairs, int unlike) {
            if (pairs < bestPairs || pairs == bestPairs && unlike >= bestUnlike) {
                return;
            }
            bestPairs = pairs;
            bestUnlike = unlike;
            for (int i = 0; i < DOUBLES; i++) {
                bestPick[i] = pick[i];
            }
        }

        /** In how many digits two differ; one without marks is like nobody. */
        private static int unlikeness(int one, int other) {
            if (one == NO_MARKS || other == NO_MARKS) {
                return MARK_DIGITS + 1;
            }
            int unlike = 0;
            int a = one;
            int b = other;
            for (int i = 0; i < MARK_DIGITS; i++) {
                if (a % 10 != b % 10) {
                    unlike++;
                }
                a /= 10;
                b /= 10;
            }
            return unlike;
        }
    }

    /** Measured runs, the grip and stops that follow from them, and plans made by them. */
    private static final class Tables {
        /** Behind every day that can be asked for. */
        static final int NEVER = LAST_DAY + 1;

        int today;
        private final int[] grounds = new int[MOST_RUNS];
        private final int[] runSpeeds = new int[MOST_RUNS];
        private final int[] stops = new int[MOST_RUNS];
        private final int[] knownOn = new int[MOST_RUNS];
        final int[] backOn = new int[MOST_RUNS];
        int runCount;
        private final int[] planGrounds = new int[MOST_PLANS];
        private final int[] planSpeeds = new int[MOST_PLANS];
        private final int[] planRooms = new int[MOST_PLANS];
        private final int[] plannedOn = new int[MOST_PLANS];
        int planCount;

        int addRun(int ground, int speed, int stop) {
            grounds[runCount] = ground;
            runSpeeds[runCount] = speed;
            stops[runCount] = stop;
            knownOn[runCount] = today;
            backOn[runCount] = NEVER;
            runCount++;
            return runCount - 1;
        }

        private boolean counts(int run, int k) {
            return knownOn[run] <= k && k < backOn[run];
        }

        int runsNow() {
            int many = 0;
            for (int i = 0; i < runCount; i++) {
                if (counts(i, today)) {
                    many++;
                }
            }
            return many;
        }

        int gripOn(int ground, int k) {
            int squares = 0;
            int length = 0;
            for (int i = 0; i < runCount; i++) {
                if (grounds[i] == ground && counts(i, k)) {
                    squares += runSpeeds[i] * runSpeeds[i] * 10;
                    length += stops[i];
                }
            }
            if (length < 1) {
                return GRIP_WITHOUT_RUNS;
            }
            return Math.max(1, squares / length);
        }

        int stopOn(int ground, int speed, int k) {
            return cutUp(speed * speed * 10, gripOn(ground, k));
        }

        int addPlan(int ground, int speed, int room) {
            planGrounds[planCount] = ground;
            planSpeeds[planCount] = speed;
            planRooms[planCount] = room;
            plannedOn[planCount] = today;
            planCount++;
            return planCount - 1;
        }

        boolean isGood(int plan, int k) {
            return stopOn(planGrounds[plan], planSpeeds[plan], k) <= planRooms[plan];
        }

        int firstOvertaken() {
            for (int i = 0; i < planCount; i++) {
                if (isGood(i, plannedOn[i]) && !isGood(i, today)) {
                    return i;
                }
            }
            return NONE;
        }
    }
}
