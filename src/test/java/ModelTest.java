import java.util.Arrays;
import java.util.Random;

/** Random runs of up to 512 calls, on StuntSet and on PlainSet: every answer must be the same. */
public final class ModelTest {
    private static final Due due = new Due();
    private static final int CALLS = 41;
    /** Behind so many a run still has room for one step more and for all counts. */
    private static final int LAST_STEP = Told.MOST_CALLS - 40;
    private static final int[] SET_CALLS = {0, 1, 2, 2, 3, 3, 3, 4, 5, 6, 7, 8, 9, 10, 11, 11, 12, 15, 16, 17};
    private static final int[] TEXT_CALLS = {2, 3, 12, 17, 41, 41, 41, 18, 19, 19, 20, 20, 20, 21};
    private static final int[] SHOT_CALLS = {27, 27, 28, 28, 29, 29, 29, 30, 31, 31, 31, 32, 32};
    private static final int[] RUN_CALLS = {33, 34, 34, 34, 35, 36, 37, 38, 38, 39, 40};

    private final Random random;
    private final StuntSet real = new StuntSet();
    private final PlainSet plain = new PlainSet();
    /** Where things happen: a small part of the set makes more of them meet. */
    private final int corner;
    private int calls = 0;

    private ModelTest(long seed) {
        random = new Random(seed);
        corner = random.nextInt(3) == 0 ? 20 : 4 + random.nextInt(8);
    }

    public static void main(String[] args) {
        int seeds = args.length > 0 ? Integer.parseInt(args[0]) : 60;
        int first = args.length > 1 ? Integer.parseInt(args[1]) : 0;
        for (int seed = first; seed < first + seeds; seed++) {
            new ModelTest(seed).run("seed " + seed, seed % 5);
        }
        due.end("ModelTest");
    }

    private void run(String name, int kind) {
        int[][] kinds = {null, SET_CALLS, TEXT_CALLS, SHOT_CALLS, RUN_CALLS};
        int[] some = kinds[kind];
        while (calls <= LAST_STEP) {
            int op = some == null || random.nextInt(20) == 0 ? random.nextInt(CALLS) : some[random.nextInt(some.length)];
            call(name + ", call " + calls, op);
        }
        for (int what = 0; what <= 17; what++) {
            same(name, "count", real.count(what), plain.count(what), what);
        }
        due.is(name + " used " + calls + " calls", Math.max(calls, Told.MOST_CALLS), Told.MOST_CALLS);
    }

    /** A number from the least to the greatest, now and then one off them or far off. */
    private int near(int least, int greatest) {
        int odd = random.nextInt(60);
        if (odd == 0) {
            return least - 1;
        }
        if (odd == 1) {
            return greatest + 1;
        }
        if (odd == 2) {
            return random.nextInt();
        }
        if (odd < 6) {
            return random.nextBoolean() ? least : greatest;
        }
        return least + random.nextInt(greatest - least + 1);
    }

    private int cell() {
        int odd = random.nextInt(40);
        return odd == 0 ? near(0, 399) : 20 * random.nextInt(corner) + random.nextInt(corner);
    }

    private int tenth() {
        return random.nextInt(3) > 0 ? near(0, 60) : near(0, 600);
    }

    private void same(String name, String call, int got, int want, int... args) {
        calls++;
        due.is(name + ": " + call + Arrays.toString(args), got, want);
    }

    private void call(String name, int op) {
        if (op == 41) {
            tellText(name);
        } else if (op < 12) {
            callSet(name, op);
        } else if (op < 22) {
            callCameraOrText(name, op);
        } else if (op < 33) {
            callRampOrShot(name, op);
        } else {
            callRun(name, op);
        }
    }

    private void callSet(String name, int op) {
        int a = near(0, 11);
        int b = near(0, 11);
        int c = cell();
        int t = tenth();
        int s = near(0, random.nextBoolean() ? 9 : 2);
        boolean on = random.nextInt(3) > 0;
        switch (op) {
            case 0: same(name, "cover", real.cover(c, on), plain.cover(c, on), c); break;
            case 1: same(name, "safe", real.safe(c, on), plain.safe(c, on), c); break;
            case 2:
                int kind = near(0, 1);
                int size = near(0, random.nextInt(3));
                same(name, "mover", real.mover(kind, size, c, t, s), plain.mover(kind, size, c, t, s), kind, size, c, t, s);
                break;
            case 3:
                int d = near(0, 7);
                int cells = near(1, random.nextBoolean() ? 5 : 19);
                int pace = near(1, random.nextBoolean() ? 4 : 20);
                int rest = near(0, random.nextBoolean() ? 9 : 99);
                same(name, "leg", real.leg(a, d, cells, pace, rest), plain.leg(a, d, cells, pace, rest), a, d, cells, pace, rest);
                break;
            case 4: same(name, "cue", real.cue(a, t, s), plain.cue(a, t, s), a, t, s); break;
            case 5: same(name, "place", real.place(a, t, s), plain.place(a, t, s), a, t, s); break;
            case 6: same(name, "hit", real.hit(a, b), plain.hit(a, b), a, b); break;
            case 7: int what = near(0, 2); same(name, "firstHit", real.firstHit(what), plain.firstHit(what), what); break;
            case 8: int n = near(1, 20); same(name, "stride", real.stride(n), plain.stride(n), n); break;
            case 9: same(name, "danger", real.danger(a, c, t), plain.danger(a, c, t), a, c, t); break;
            case 10: same(name, "abort", real.abort(t), plain.abort(t), t); break;
            default: same(name, "saved", real.saved(a, t), plain.saved(a, t), a, t); break;
        }
    }

    private void callCameraOrText(String name, int op) {
        int a = near(0, 7);
        int c = cell();
        int what = near(0, 2);
        switch (op) {
            case 12:
                int d = near(0, 7);
                int wide = near(0, 2);
                int reach = near(1, 19);
                int from = tenth();
                int to = random.nextInt(10) == 0 ? tenth() : Math.min(600, from + random.nextInt(40));
                same(name, "camera", real.camera(c, d, wide, reach, from, to), plain.camera(c, d, wide, reach, from, to),
                        c, d, wide, reach, from, to);
                break;
            case 13: case 15: same(name, "sees", real.sees(a, c), plain.sees(a, c), a, c); break;
            case 14: case 16: same(name, "quarrels", real.quarrels(what), plain.quarrels(what), what); break;
            case 17: int t = tenth(); same(name, "picture", real.picture(a, t), plain.picture(a, t), a, t); break;
            case 18: int v = near(0, what == 2 ? 999 : 99); same(name, "tell", real.tell(what, v), plain.tell(what, v), what, v); break;
            case 19: feedSome(name); break;
            case 20:
                int call = near(0, 5);
                same(name, "lets", real.lets(call), plain.lets(call), call);
                int forCall = near(0, 5);
                if (random.nextInt(3) == 0) {
                    same(name, "text", real.text(forCall), plain.text(forCall), forCall);
                }
                break;
            default: same(name, "take", real.take(), plain.take()); break;
        }
    }

    private void feedSome(String name) {
        String signs = "wgsthqb0123456789!!((()))|&<=>x";
        int n = near(1, 8);
        long bytes = random.nextLong();
        if (random.nextInt(4) > 0) {
            bytes = 0;
            for (int i = 0; i < 8; i++) {
                bytes = bytes << 8 | signs.charAt(random.nextInt(signs.length()));
            }
        }
        same(name, "feed " + Long.toHexString(bytes), real.feed(n, bytes), plain.feed(n, bytes), n);
    }

    /** A text by the grammar, now and then with a byte that is wrong, fed whole and told. */
    private void tellText(String name) {
        StringBuilder made = new StringBuilder();
        makeOrs(made, random.nextInt(7));
        if (random.nextInt(3) == 0) {
            int at = random.nextInt(made.length() + 1);
            String wrong = "wb09!()|&<=>x ";
            made.insert(at, wrong.charAt(random.nextInt(wrong.length())));
        }
        if (random.nextInt(5) == 0) {
            made.deleteCharAt(random.nextInt(made.length()));
        }
        for (int i = 0; i < made.length(); i += 8) {
            int n = Math.min(8, made.length() - i);
            long bytes = Told.bytesOf(made.substring(i, i + n));
            same(name, "feed", real.feed(n, bytes), plain.feed(n, bytes), n);
        }
        int call = near(0, 5);
        same(name, "text " + made, real.text(call), plain.text(call), call);
        same(name, "lets behind " + made, real.lets(call), plain.lets(call), call);
    }

    private void makeOrs(StringBuilder made, int deep) {
        makeTest(made, deep);
        while (random.nextInt(3) == 0 && made.length() < 40) {
            made.append(random.nextBoolean() ? '|' : '&');
            makeTest(made, deep);
        }
    }

    private void makeTest(StringBuilder made, int deep) {
        int how = deep > 0 ? random.nextInt(3) : 2;
        if (how == 0) {
            made.append('!');
            makeTest(made, deep - 1);
        } else if (how == 1) {
            made.append('(');
            makeOrs(made, deep - 1);
            made.append(')');
        } else {
            makeUnit(made);
            made.append("<=>".charAt(random.nextInt(3)));
            makeUnit(made);
        }
    }

    private void makeUnit(StringBuilder made) {
        if (random.nextBoolean()) {
            made.append("wgsthqb".charAt(random.nextInt(7)));
        } else if (random.nextInt(6) == 0) {
            made.append(random.nextInt(20000));
        } else {
            made.append(random.nextInt(3));
        }
    }

    private void callRampOrShot(String name, int op) {
        int a = near(0, 7);
        int v = near(1, 99);
        int what = near(0, 2);
        switch (op) {
            case 22:
                int run = near(1, 99);
                int gap = near(1, 999);
                int length = near(1, 999);
                same(name, "ramp", real.ramp(v, run, gap, length), plain.ramp(v, run, gap, length), v, run, gap, length);
                break;
            case 23: same(name, "lands", real.lands(a, v), plain.lands(a, v), a, v); break;
            case 24: same(name, "speeds", real.speeds(a, what), plain.speeds(a, what), a, what); break;
            case 25: int h = near(1, 999); same(name, "bags", real.bags(h, v), plain.bags(h, v), h, v); break;
            case 26:
                int heat = near(1, 9);
                int burns = near(0, 999) / (1 + random.nextInt(20));
                int out = near(0, 999) / (1 + random.nextInt(20));
                same(name, "fire", real.fire(v, heat, burns, out), plain.fire(v, heat, burns, out), v, heat, burns, out);
                break;
            case 27: tellShot(name); break;
            case 28: int w = near(0, 8); same(name, "best", real.best(w), plain.best(w), w); break;
            case 29: int s = near(0, random.nextInt(7)); same(name, "put", real.put(s), plain.put(s), s); break;
            case 30: same(name, "judge", real.judge(), plain.judge()); break;
            case 31:
                int marks = near(0, 1) == 0 ? near(-1, 99999) : 12300 + random.nextInt(4) + 10 * random.nextInt(4) + 100 * random.nextInt(2);
                same(name, "marks", real.marks(a, marks), plain.marks(a, marks), a, marks);
                break;
            default: int star = near(0, 3); same(name, "matched", real.matched(star), plain.matched(star), star); break;
        }
    }

    private void tellShot(String name) {
        int twin = near(0, 3);
        int minutes = random.nextBoolean() ? near(1, 60) : near(1, 300);
        int from = random.nextInt(3) == 0 ? near(0, 999) : near(0, 100);
        int to = random.nextInt(3) == 0 ? near(0, 999) : near(500, 999);
        int risk = random.nextBoolean() ? near(0, 3) : near(0, 999);
        int tired = random.nextBoolean() ? near(0, 2) : near(0, 99);
        // Few are told, so that most runs have orders of four or five.
        if (random.nextInt(8) == 0) {
            same(name, "shot", real.shot(twin, minutes, from, to, risk, tired), plain.shot(twin, minutes, from, to, risk, tired),
                    twin, minutes, from, to, risk, tired);
        }
    }

    private void callRun(String name, int op) {
        int ground = near(0, random.nextInt(4));
        int speed = near(1, 99);
        int k = random.nextBoolean() ? near(0, 60) : near(0, 999);
        int number = near(0, 19);
        switch (op) {
            case 33: int n = near(1, 5); same(name, "days", real.days(n), plain.days(n), n); break;
            case 34: int stop = near(1, random.nextBoolean() ? 500 : 9999); same(name, "run", real.run(ground, speed, stop), plain.run(ground, speed, stop), ground, speed, stop); break;
            case 35: same(name, "takeBack", real.takeBack(number), plain.takeBack(number), number); break;
            case 36: same(name, "grip", real.grip(ground, k), plain.grip(ground, k), ground, k); break;
            case 37: same(name, "stop", real.stop(ground, speed, k), plain.stop(ground, speed, k), ground, speed, k); break;
            case 38: int room = near(1, random.nextBoolean() ? 999 : 99999); same(name, "plan", real.plan(ground, speed, room), plain.plan(ground, speed, room), ground, speed, room); break;
            case 39: same(name, "good", real.good(number, k), plain.good(number, k), number, k); break;
            default: same(name, "overtaken", real.overtaken(), plain.overtaken()); break;
        }
    }
}
