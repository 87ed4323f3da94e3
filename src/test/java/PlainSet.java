import java.util.ArrayList;
import java.util.HashSet;
import java.util.List;
import java.util.Set;

/** The document, written down word by word and slowly: what ModelTest compares StuntSet with. */
final class PlainSet {
    private static final int[][] DIRECTIONS = {{1, 0}, {1, 1}, {0, 1}, {-1, 1}, {-1, 0}, {-1, -1}, {0, -1}, {1, -1}};

    private static final class Mover {
        int kind, size, cell, cue, slip;
        final List<int[]> legs = new ArrayList<>();
    }

    private final Set<Integer> cover = new HashSet<>();
    private final Set<Integer> safe = new HashSet<>();
    private final List<Mover> movers = new ArrayList<>();
    private final List<int[]> cameras = new ArrayList<>();
    private final List<int[]> ramps = new ArrayList<>();
    private final List<int[]> shots = new ArrayList<>();
    private final List<int[]> runs = new ArrayList<>();
    private final List<int[]> plans = new ArrayList<>();
    private final List<Integer> row = new ArrayList<>();
    private final int[] told = new int[3];
    private final int[] marks = {-1, -1, -1, -1, -1, -1, -1, -1};
    private final String[] texts = new String[6];
    private final int[] refusals = new int[7];
    private String tape = "";
    private int textsTold = 0;
    private int takes = 0;
    private int stride = 4;
    private int day = 0;

    private int no(int number) {
        refusals[-number]++;
        return number;
    }

    private static boolean in(int v, int least, int greatest) {
        return least <= v && v <= greatest;
    }

    /** 0 if every v is from its least to its greatest, else -4 or -6: triples v, least, greatest. */
    private static int range(int... v) {
        for (int i = 0; i < v.length; i += 3) {
            if (v[i] < v[i + 1]) {
                return -4;
            }
        }
        for (int i = 0; i < v.length; i += 3) {
            if (v[i] > v[i + 2]) {
                return -6;
            }
        }
        return 0;
    }

    int cover(int cell, boolean on) {
        if (!in(cell, 0, 399)) {
            return no(-1);
        }
        return (on ? cover.add(cell) : cover.remove(cell)) ? 1 : 0;
    }

    int safe(int cell, boolean on) {
        if (!in(cell, 0, 399)) {
            return no(-1);
        }
        return (on ? safe.add(cell) : safe.remove(cell)) ? 1 : 0;
    }

    int mover(int kind, int size, int cell, int cue, int slip) {
        if (!in(kind, 0, 1)) {
            return no(-2);
        }
        if (!in(cell, 0, 399)) {
            return no(-1);
        }
        int r = range(size, 0, 3, cue, 0, 600, slip, 0, 9, movers.size(), 0, 11);
        if (r != 0) {
            return no(r);
        }
        Mover m = new Mover();
        m.kind = kind;
        m.size = size;
        m.cell = cell;
        m.cue = cue;
        m.slip = slip;
        movers.add(m);
        return movers.size() - 1;
    }

    int leg(int mover, int direction, int cells, int pace, int rest) {
        if (!in(mover, 0, movers.size() - 1)) {
            return no(-1);
        }
        if (!in(direction, 0, 7)) {
            return no(-2);
        }
        Mover m = movers.get(mover);
        int r = range(cells, 1, 19, pace, 1, 20, rest, 0, 99, m.legs.size(), 0, 9);
        if (r != 0) {
            return no(r);
        }
        int end = placeOf(m, 1000000, 0);
        int x = end % 20 + cells * DIRECTIONS[direction][0];
        int y = end / 20 + cells * DIRECTIONS[direction][1];
        if (!in(x, 0, 19) || !in(y, 0, 19)) {
            return no(-3);
        }
        m.legs.add(new int[] {direction, cells, pace, rest});
        return m.legs.size();
    }

    int cue(int mover, int tenth, int slip) {
        if (!in(mover, 0, movers.size() - 1)) {
            return no(-1);
        }
        int r = range(tenth, 0, 600, slip, 0, 9);
        if (r != 0) {
            return no(r);
        }
        Mover m = movers.get(mover);
        int was = m.cue;
        m.cue = tenth;
        m.slip = slip;
        return was;
    }

    private static int placeOf(Mover m, int tenth, int late) {
        int left = tenth - m.cue - late;
        int x = m.cell % 20;
        int y = m.cell / 20;
        for (int[] leg : m.legs) {
            if (left <= 0) {
                break;
            }
            int gone = Math.min(leg[1], left / leg[2]);
            x += gone * DIRECTIONS[leg[0]][0];
            y += gone * DIRECTIONS[leg[0]][1];
            left -= leg[1] * leg[2] + leg[3];
        }
        return 20 * y + x;
    }

    int place(int mover, int tenth, int late) {
        if (!in(mover, 0, movers.size() - 1)) {
            return no(-1);
        }
        int r = range(tenth, 0, 600, late, 0, movers.get(mover).slip);
        return r != 0 ? no(r) : placeOf(movers.get(mover), tenth, late);
    }

    private static int far(int a, int b) {
        return Math.max(Math.abs(a % 20 - b % 20), Math.abs(a / 20 - b / 20));
    }

    private static int hitOf(Mover a, Mover b) {
        for (int t = 0; t <= 600; t++) {
            for (int la = 0; la <= a.slip; la++) {
                for (int lb = 0; lb <= b.slip; lb++) {
                    if (far(placeOf(a, t, la), placeOf(b, t, lb)) <= a.size + b.size) {
                        return t;
                    }
                }
            }
        }
        return -9;
    }

    int hit(int a, int b) {
        if (!in(a, 0, movers.size() - 1) || !in(b, 0, movers.size() - 1) || a == b) {
            return no(-1);
        }
        return hitOf(movers.get(a), movers.get(b));
    }

    private int[] first() {
        int[] first = {-9, -9, -9};
        for (int a = 0; a < movers.size(); a++) {
            for (int b = a + 1; b < movers.size(); b++) {
                if (movers.get(a).kind + movers.get(b).kind > 0) {
                    int t = hitOf(movers.get(a), movers.get(b));
                    if (t >= 0 && (first[0] < 0 || t < first[0])) {
                        first = new int[] {t, a, b};
                    }
                }
            }
        }
        return first;
    }

    int firstHit(int what) {
        return in(what, 0, 2) ? first()[what] : no(-2);
    }

    int stride(int tenths) {
        int r = range(tenths, 1, 20);
        if (r != 0) {
            return no(r);
        }
        int was = stride;
        stride = tenths;
        return was;
    }

    private boolean dangerTo(Mover body, int cell, int tenth) {
        for (Mover car : movers) {
            for (int l = 0; car.kind == 1 && l <= car.slip; l++) {
                if (far(placeOf(car, Math.min(600, tenth), l), cell) <= car.size + body.size) {
                    return true;
                }
            }
        }
        return false;
    }

    int danger(int mover, int cell, int tenth) {
        if (!in(mover, 0, movers.size() - 1) || !in(cell, 0, 399)) {
            return no(-1);
        }
        if (movers.get(mover).kind == 1) {
            return no(-2);
        }
        int r = range(tenth, 0, 600);
        return r != 0 ? no(r) : dangerTo(movers.get(mover), cell, tenth) ? 1 : 0;
    }

    private int savedAt(Mover body, int t) {
        Set<Integer> at = new HashSet<>();
        at.add(placeOf(body, t, 0));
        for (int begin = t; begin <= t + 100; begin += stride) {
            for (int cell : at) {
                if (safe.contains(cell) && !dangerTo(body, cell, begin)) {
                    return begin;
                }
            }
            Set<Integer> next = new HashSet<>();
            for (int cell : at) {
                boolean lives = true;
                for (int u = begin; u < begin + stride && lives; u++) {
                    lives = !dangerTo(body, cell, u);
                }
                if (lives) {
                    next.add(cell);
                    for (int[] d : DIRECTIONS) {
                        int x = cell % 20 + d[0];
                        int y = cell / 20 + d[1];
                        if (in(x, 0, 19) && in(y, 0, 19) && !cover.contains(20 * y + x)) {
                            next.add(20 * y + x);
                        }
                    }
                }
            }
            at = next;
        }
        return -9;
    }

    private int lost(int tenth) {
        int lost = 0;
        for (Mover m : movers) {
            if (m.kind == 0 && savedAt(m, tenth) == -9) {
                lost++;
            }
        }
        return lost;
    }

    int abort(int tenth) {
        int r = range(tenth, 0, 600);
        return r != 0 ? no(r) : lost(tenth);
    }

    int saved(int mover, int tenth) {
        if (!in(mover, 0, movers.size() - 1)) {
            return no(-1);
        }
        if (movers.get(mover).kind == 1) {
            return no(-2);
        }
        int r = range(tenth, 0, 600);
        return r != 0 ? no(r) : savedAt(movers.get(mover), tenth);
    }

    int camera(int cell, int direction, int wide, int reach, int from, int to) {
        if (!in(cell, 0, 399)) {
            return no(-1);
        }
        if (!in(direction, 0, 7)) {
            return no(-2);
        }
        int r = to < from ? -4
                : range(wide, 0, 2, reach, 1, 19, from, 0, 600, to, 0, 600, cameras.size(), 0, 7);
        if (r != 0) {
            return no(r);
        }
        cameras.add(new int[] {cell, direction, wide, reach, from, to});
        return cameras.size() - 1;
    }

    private boolean seesCell(int[] c, int cell) {
        int x = c[0] % 20;
        int y = c[0] / 20;
        int dx = cell % 20 - x;
        int dy = cell / 20 - y;
        int[] d = DIRECTIONS[c[1]];
        int n = far(cell, c[0]);
        int along = dx * d[0] + dy * d[1];
        int across = dx * d[1] - dy * d[0];
        if (n == 0 || n > c[3] || along <= 0 || 2 * Math.abs(across) > c[2] * along) {
            return false;
        }
        for (int i = 1; i <= n - 1; i++) {
            int cx = x + (int) Math.floor((2 * i * dx + n) / (2.0 * n));
            int cy = y + (int) Math.floor((2 * i * dy + n) / (2.0 * n));
            if (cover.contains(20 * cy + cx)) {
                return false;
            }
        }
        return true;
    }

    int sees(int camera, int cell) {
        if (!in(camera, 0, cameras.size() - 1) || !in(cell, 0, 399)) {
            return no(-1);
        }
        return seesCell(cameras.get(camera), cell) ? 1 : 0;
    }

    private int[] quarrelsAll() {
        int[] found = {0, -9, -9};
        for (int a = 0; a < cameras.size(); a++) {
            for (int b = a + 1; b < cameras.size(); b++) {
                int[] p = cameras.get(a);
                int[] q = cameras.get(b);
                boolean together = false;
                for (int t = 0; t <= 600; t++) {
                    together |= in(t, p[4], p[5]) && in(t, q[4], q[5]);
                }
                if (together && (seesCell(p, q[0]) || seesCell(q, p[0]))) {
                    if (found[0]++ == 0) {
                        found[1] = a;
                        found[2] = b;
                    }
                }
            }
        }
        return found;
    }

    int quarrels(int what) {
        return in(what, 0, 2) ? quarrelsAll()[what] : no(-2);
    }

    int picture(int camera, int tenth) {
        if (!in(camera, 0, cameras.size() - 1)) {
            return no(-1);
        }
        int r = range(tenth, 0, 600);
        if (r != 0) {
            return no(r);
        }
        int[] c = cameras.get(camera);
        int bits = 0;
        for (int i = 0; i < movers.size(); i++) {
            if (in(tenth, c[4], c[5]) && seesCell(c, placeOf(movers.get(i), tenth, 0))) {
                bits += 1 << i;
            }
        }
        return bits;
    }

    int tell(int what, int v) {
        if (!in(what, 0, 2)) {
            return no(-2);
        }
        int r = range(v, 0, what == 2 ? 999 : 99);
        if (r != 0) {
            return no(r);
        }
        int was = told[what];
        told[what] = v;
        return was;
    }

    int feed(int n, long bytes) {
        int r = range(n, 1, 8);
        if (r == 0 && tape.length() + n > 60) {
            r = -6;
        }
        if (r != 0) {
            return no(r);
        }
        for (int i = 0; i < n; i++) {
            tape += (char) (bytes >>> 8 * i & 255);
        }
        return tape.length();
    }

    /** The fault's place by what may stand next, with a stack of what is open; -1 without one. */
    static int faultOf(String text) {
        StringBuilder open = new StringBuilder();
        // 0 a test begins, 1 a number goes on left, 2 a sign must come, 3 a unit right, 4 a number goes on right, 5 over
        int state = 0;
        int digits = 0;
        for (int i = 0; i < text.length(); i++) {
            char c = text.charAt(i);
            boolean digit = c >= '0' && c <= '9';
            boolean letter = "wgsthqb".indexOf(c) >= 0;
            if (state == 1 || state == 4) {
                if (digit && digits < 4) {
                    digits++;
                    continue;
                }
                state = state == 1 ? 2 : 5;
            }
            if (state == 5) {
                while (open.length() > 0 && open.charAt(open.length() - 1) == '!') {
                    open.setLength(open.length() - 1);
                }
                if (c == ')' && open.length() > 0) {
                    open.setLength(open.length() - 1);
                } else if (c == '&' || c == '|') {
                    state = 0;
                } else {
                    return i;
                }
            } else if (state == 0 && (c == '!' || c == '(')) {
                if (open.length() == 5) {
                    return i;
                }
                open.append(c);
            } else if (state == 0 || state == 3) {
                if (!digit && !letter) {
                    return i;
                }
                digits = 1;
                state = state == 0 ? digit ? 1 : 2 : digit ? 4 : 5;
            } else if ("<=>".indexOf(c) >= 0) {
                state = 3;
            } else {
                return i;
            }
        }
        boolean whole = (state == 4 || state == 5) && open.indexOf("(") < 0;
        return whole ? -1 : text.length();
    }

    int text(int call) {
        if (!in(call, 0, 5)) {
            return no(-1);
        }
        if (textsTold == 40) {
            return no(-6);
        }
        int fault = faultOf(tape);
        if (fault < 0) {
            texts[call] = tape;
            textsTold++;
        }
        tape = "";
        return fault < 0 ? textsTold : -20 - fault;
    }

    private int unit(String u) {
        switch (u.charAt(0)) {
            case 'w': return told[0];
            case 'g': return told[1];
            case 's': return told[2];
            case 't': return takes;
            case 'h': return first()[0] >= 0 ? 1 : 0;
            case 'q': return quarrelsAll()[0];
            case 'b': return movers.isEmpty() ? 0 : lost(movers.get(0).cue);
            default: return Integer.parseInt(u);
        }
    }

    /** Splits a text without faults at its outermost sign. */
    private boolean holds(String text) {
        for (char sign : new char[] {'|', '&'}) {
            int deep = 0;
            for (int i = 0; i < text.length(); i++) {
                char c = text.charAt(i);
                deep += c == '(' ? 1 : c == ')' ? -1 : 0;
                if (deep == 0 && c == sign) {
                    boolean left = holds(text.substring(0, i));
                    boolean right = holds(text.substring(i + 1));
                    return sign == '|' ? left || right : left && right;
                }
            }
        }
        if (text.charAt(0) == '!') {
            return !holds(text.substring(1));
        }
        if (text.charAt(0) == '(') {
            return holds(text.substring(1, text.length() - 1));
        }
        int at = Math.max(text.indexOf('<'), Math.max(text.indexOf('='), text.indexOf('>')));
        int left = unit(text.substring(0, at));
        int right = unit(text.substring(at + 1));
        char c = text.charAt(at);
        return c == '<' ? left < right : c == '=' ? left == right : left > right;
    }

    private boolean isLet(int call) {
        return texts[call] == null ? call != 0 : holds(texts[call]);
    }

    int lets(int call) {
        return in(call, 0, 5) ? isLet(call) ? 1 : 0 : no(-1);
    }

    int take() {
        return isLet(0) ? ++takes : no(-3);
    }

    int ramp(int rise, int run, int gap, int length) {
        int r = range(rise, 1, 99, run, 1, 99, gap, 1, 999, length, 1, 999, ramps.size(), 0, 7);
        if (r != 0) {
            return no(r);
        }
        ramps.add(new int[] {rise, run, gap, length});
        return ramps.size() - 1;
    }

    private static int landing(int[] ramp, int v) {
        int up = v * ramp[0] / ramp[1];
        int height = 0;
        int tenths = 0;
        do {
            height += up;
            up -= 2;
            tenths++;
        } while (height > 0);
        return v * tenths;
    }

    int lands(int ramp, int speed) {
        if (!in(ramp, 0, ramps.size() - 1)) {
            return no(-1);
        }
        int r = range(speed, 1, 99);
        return r != 0 ? no(r) : landing(ramps.get(ramp), speed);
    }

    int speeds(int ramp, int what) {
        if (!in(ramp, 0, ramps.size() - 1)) {
            return no(-1);
        }
        if (!in(what, 0, 2)) {
            return no(-2);
        }
        List<Integer> those = new ArrayList<>();
        int[] r = ramps.get(ramp);
        for (int v = 1; v <= 99; v++) {
            if (in(landing(r, v), r[2], r[2] + r[3])) {
                those.add(v);
            }
        }
        if (what == 0) {
            return those.size();
        }
        return those.isEmpty() ? -9 : those.get(what == 1 ? 0 : those.size() - 1);
    }

    int bags(int height, int jolt) {
        int r = range(height, 1, 999, jolt, 1, 99);
        return r != 0 ? no(r) : (int) Math.ceil(height * 10.0 / jolt);
    }

    int fire(int gel, int heat, int burns, int out) {
        int r = range(gel, 0, 99, heat, 1, 9, burns, 0, 999, out, 0, 999);
        if (r != 0) {
            return no(r);
        }
        return gel * 30 / heat > burns + out + (int) Math.ceil((burns + out) / 10.0) ? 1 : 0;
    }

    int shot(int twin, int minutes, int from, int to, int risk, int tired) {
        if (!in(twin, 0, 3)) {
            return no(-1);
        }
        int r = to < from ? -4 : range(minutes, 1, 300, from, 0, 999, to, 0, 999, risk, 0, 999, tired, 0, 99,
                shots.size(), 0, 6);
        if (r != 0) {
            return no(r);
        }
        shots.add(new int[] {twin, minutes, from, to, risk, tired});
        return shots.size() - 1;
    }

    /** All orders, by numbers. */
    private void orders(List<Integer> begun, List<List<Integer>> all) {
        if (begun.size() == shots.size()) {
            all.add(new ArrayList<>(begun));
            return;
        }
        for (int s = 0; s < shots.size(); s++) {
            if (!begun.contains(s)) {
                begun.add(s);
                orders(begun, all);
                begun.remove(begun.size() - 1);
            }
        }
    }

    private int endOf(List<Integer> order) {
        int end = 0;
        for (int s : order) {
            int[] shot = shots.get(s);
            end = Math.max(end, shot[2]) + shot[1];
            if (end > shot[3]) {
                return -1;
            }
        }
        return end;
    }

    private int riskOf(List<Integer> order) {
        int risk = 0;
        for (int i = 0; i < order.size(); i++) {
            int[] shot = shots.get(order.get(i));
            risk += shot[4];
            for (int j = 0; j < i; j++) {
                if (shots.get(order.get(j))[0] == shot[0]) {
                    risk += shot[5];
                }
            }
        }
        return risk;
    }

    int best(int what) {
        if (!in(what, 0, 8)) {
            return no(-2);
        }
        List<List<Integer>> all = new ArrayList<>();
        orders(new ArrayList<>(), all);
        List<Integer> best = null;
        for (List<Integer> order : all) {
            if (endOf(order) >= 0 && (best == null || riskOf(order) < riskOf(best)
                    || riskOf(order) == riskOf(best) && endOf(order) < endOf(best))) {
                best = order;
            }
        }
        if (best == null || what - 2 >= best.size()) {
            return -9;
        }
        return what == 0 ? riskOf(best) : what == 1 ? endOf(best) : best.get(what - 2);
    }

    int put(int v) {
        int r = range(v, -128, 127, row.size(), 0, 11);
        if (r != 0) {
            return no(r);
        }
        row.add(v);
        return row.size();
    }

    int judge() {
        List<Integer> was = new ArrayList<>(row);
        row.clear();
        for (int i = 0; i < was.size(); i++) {
            List<Integer> upTo = was.subList(0, i + 1);
            boolean known = in(was.get(i), 0, shots.size() - 1);
            if (!known || was.indexOf(was.get(i)) < i || endOf(upTo) < 0) {
                return i;
            }
        }
        return was.size() < shots.size() ? was.size() : -9;
    }

    int marks(int who, int digits) {
        int r = in(who, 0, 7) ? range(digits, -1, 99999) : -1;
        if (r != 0) {
            return 1000000000 - no(r);
        }
        int was = marks[who];
        marks[who] = digits;
        return was;
    }

    private int unlike(int star, int twin) {
        if (marks[twin] < 0 || marks[4 + star] < 0) {
            return 9;
        }
        String a = String.format("%05d", marks[twin]);
        String b = String.format("%05d", marks[4 + star]);
        int unlike = 0;
        for (int i = 0; i < 5; i++) {
            unlike += a.charAt(i) == b.charAt(i) ? 0 : 1;
        }
        return unlike;
    }

    int matched(int star) {
        if (!in(star, 0, 3)) {
            return no(-1);
        }
        int bestValue = -1;
        int bestCode = 0;
        // A code has a digit of five for each star, the first the highest; 4 is none.
        for (int code = 0; code < 625; code++) {
            int used = 0;
            int pairs = 0;
            int together = 0;
            boolean fits = true;
            for (int s = 0; s < 4; s++) {
                int twin = pickOf(code, s);
                if (twin < 4) {
                    fits &= (used >> twin & 1) == 0 && unlike(s, twin) <= 2;
                    used |= 1 << twin;
                    pairs++;
                    together += unlike(s, twin);
                }
            }
            if (fits && 1000 * pairs + 900 - together > bestValue) {
                bestValue = 1000 * pairs + 900 - together;
                bestCode = code;
            }
        }
        int twin = pickOf(bestCode, star);
        return twin == 4 ? -9 : twin;
    }

    private static int pickOf(int code, int star) {
        return code / new int[] {125, 25, 5, 1}[star] % 5;
    }

    int days(int n) {
        int r = range(n, 1, 999 - day);
        return r != 0 ? no(r) : (day += n);
    }

    int run(int ground, int speed, int stop) {
        if (!in(ground, 0, 3)) {
            return no(-1);
        }
        int r = range(speed, 1, 99, stop, 1, 9999, runs.size(), 0, 59);
        if (r != 0) {
            return no(r);
        }
        runs.add(new int[] {ground, speed, stop, day, -1});
        return runs.size() - 1;
    }

    int takeBack(int run) {
        if (!in(run, 0, runs.size() - 1)) {
            return no(-1);
        }
        if (runs.get(run)[4] >= 0) {
            return no(-3);
        }
        runs.get(run)[4] = day;
        return 1;
    }

    private static boolean counts(int[] run, int k) {
        return run[3] <= k && (run[4] < 0 || run[4] > k);
    }

    private int gripOn(int ground, int k) {
        int above = 0;
        int below = 0;
        for (int[] run : runs) {
            if (run[0] == ground && counts(run, k)) {
                above += run[1] * run[1] * 10;
                below += run[2];
            }
        }
        return below == 0 ? 20 : Math.max(1, above / below);
    }

    int grip(int ground, int k) {
        int r = in(ground, 0, 3) ? range(k, 0, 999) : -1;
        return r != 0 ? no(r) : gripOn(ground, k);
    }

    private int stopOn(int ground, int speed, int k) {
        return (int) Math.ceil(speed * speed * 10.0 / gripOn(ground, k));
    }

    int stop(int ground, int speed, int k) {
        int r = in(ground, 0, 3) ? range(speed, 1, 99, k, 0, 999) : -1;
        return r != 0 ? no(r) : stopOn(ground, speed, k);
    }

    int plan(int ground, int speed, int room) {
        if (!in(ground, 0, 3)) {
            return no(-1);
        }
        int r = range(speed, 1, 99, room, 1, 99999, plans.size(), 0, 19);
        if (r != 0) {
            return no(r);
        }
        plans.add(new int[] {ground, speed, room, day});
        return plans.size() - 1;
    }

    private static final int GROUND = 0, SPEED = 1, SPACE = 2, PLANNED = 3;

    private boolean isGood(int[] plan, int k) {
        return stopOn(plan[GROUND], plan[SPEED], k) <= plan[SPACE];
    }

    int good(int plan, int k) {
        int r = in(plan, 0, plans.size() - 1) ? range(k, 0, 999) : -1;
        return r != 0 ? no(r) : isGood(plans.get(plan), k) ? 1 : 0;
    }

    int overtaken() {
        for (int i = 0; i < plans.size(); i++) {
            if (isGood(plans.get(i), plans.get(i)[PLANNED]) && !isGood(plans.get(i), day)) {
                return i;
            }
        }
        return -9;
    }

    int count(int what) {
        int runsNow = 0;
        for (int[] run : runs) {
            runsNow += counts(run, day) ? 1 : 0;
        }
        int[] all = {movers.size(), cameras.size(), textsTold, takes, ramps.size(), shots.size(), runsNow,
            plans.size(), day, tape.length(), row.size(), refusals[1], refusals[2], refusals[3], refusals[4],
            refusals[5], refusals[6], safe.size()};
        return in(what, 0, 17) ? all[what] : -9;
    }
}
