import java.util.ArrayList;
import java.util.List;

/** What edges are looked at on: nothing told yet, something of everything, and no room left anywhere. */
enum Scene {
    EMPTY, SOME, FULL;

    private static final int BODY = 0;
    private static final int CAR = 1;

    /** What is told, as the tables of refusals need to know it: movers by their numbers, the rest by how many. */
    int[] kinds() {
        return pick(new int[0], new int[] {BODY, BODY, CAR},
                new int[] {BODY, CAR, BODY, CAR, BODY, CAR, BODY, CAR, BODY, CAR, BODY, CAR});
    }

    int[] slips() {
        return pick(new int[0], new int[] {2, 0, 9}, new int[] {0, 1, 2, 3, 4, 5, 6, 7, 8, 9, 0, 1});
    }

    int[] cues() {
        return pick(new int[0], new int[] {10, 0, 5}, new int[] {0, 1, 2, 3, 4, 5, 6, 7, 8, 9, 10, 11});
    }

    /** Where each mover's last leg ends. */
    int[] ends() {
        return pick(new int[0], new int[] {380, 213, 395},
                new int[] {21, 42, 63, 84, 105, 126, 147, 168, 189, 210, 231, 252});
    }

    int[] legs() {
        return pick(new int[0], new int[] {0, 1, 2}, new int[] {10, 0, 0, 0, 0, 0, 0, 0, 0, 0, 0, 10});
    }

    int cameras() {
        return pick(0, 2, 8);
    }

    int texts() {
        return pick(0, 2, 40);
    }

    int bytesOnTape() {
        return pick(0, 4, 60);
    }

    int takes() {
        return pick(0, 1, 0);
    }

    boolean goIsLet() {
        return this == SOME;
    }

    int ramps() {
        return pick(0, 2, 8);
    }

    int shots() {
        return pick(0, 3, 7);
    }

    int bytesOfRow() {
        return pick(0, 2, 12);
    }

    int runs() {
        return pick(0, 3, 60);
    }

    /** The last run is taken back, the first is not. */
    boolean isTakenBack(long run) {
        return run == runs() - 1;
    }

    int plans() {
        return pick(0, 2, 20);
    }

    int day() {
        return pick(0, 5, 999);
    }

    int strideWas() {
        return pick(4, 7, 20);
    }

    int toldWas(long what) {
        return pick(new int[3], new int[] {3, 4, 100}, new int[] {99, 98, 999})[(int) what];
    }

    int marksWere(long who) {
        int[] none = {-1, -1, -1, -1, -1, -1, -1, -1};
        return pick(none, new int[] {12345, -1, 0, -1, 12340, -1, -1, 99999},
                new int[] {99999, 99999, 99999, 99999, 99999, 99999, 99999, 99999})[(int) who];
    }

    private <T> T pick(T empty, T some, T full) {
        return this == EMPTY ? empty : this == SOME ? some : full;
    }

    Told make() {
        Told x = new Told();
        if (this == SOME) {
            makeSome(x);
        } else if (this == FULL) {
            makeFull(x);
        }
        return x;
    }

    private static void makeSome(Told x) {
        x.call("cover", 0, 1);
        x.call("cover", 230, 1);
        x.call("safe", 399, 1);
        x.call("safe", 361, 1);
        x.call("mover", BODY, 0, 380, 10, 2);
        x.call("mover", BODY, 1, 210, 0, 0);
        x.call("leg", 1, 0, 3, 2, 5);
        x.call("mover", CAR, 1, 0, 5, 9);
        x.call("leg", 2, 0, 15, 2, 0);
        x.call("leg", 2, 2, 19, 1, 99);
        x.call("stride", 7);
        x.call("camera", 200, 0, 2, 19, 0, 600);
        x.call("camera", 219, 4, 1, 5, 10, 20);
        x.call("tell", 0, 3);
        x.call("tell", 1, 4);
        x.call("tell", 2, 100);
        x.feed("t<9").call("text", 0);
        x.feed("w>3").call("text", 3);
        x.feed("g=4&");
        x.call("take");
        x.call("ramp", 1, 2, 30, 20);
        x.call("ramp", 2, 1, 3, 40);
        x.call("shot", 0, 60, 0, 300, 5, 10);
        x.call("shot", 0, 50, 0, 400, 6, 20);
        x.call("shot", 1, 40, 100, 500, 7, 30);
        x.call("put", 2);
        x.call("put", 0);
        x.call("marks", 0, 12345);
        x.call("marks", 2, 0);
        x.call("marks", 4, 12340);
        x.call("marks", 7, 99999);
        x.call("run", 0, 10, 40);
        x.call("plan", 0, 10, 45);
        x.call("run", 1, 20, 100);
        x.call("run", 0, 10, 300);
        x.call("days", 3);
        x.call("takeBack", 2);
        x.call("days", 2);
        x.call("plan", 1, 20, 100);
    }

    private static void makeFull(Told x) {
        x.call("stride", 20);
        for (int i = 0; i < 12; i++) {
            x.call("mover", i % 2, i % 4, 21 * (i + 1), i, i % 10);
        }
        for (int i = 0; i < 10; i++) {
            x.call("leg", 0, i % 2 * 4, 1, 2, 3);
            x.call("leg", 11, i % 2 * 4, 1, 3, 2);
        }
        for (int i = 0; i < 8; i++) {
            x.call("camera", 100 + 2 * i, i, 2, 19, 0, 600);
        }
        x.call("tell", 0, 99);
        x.call("tell", 1, 98);
        x.call("tell", 2, 999);
        for (int i = 0; i < 40; i++) {
            x.feed(i % 2 == 0 ? "1=2" : "w=99").call("text", i % 6);
        }
        x.feed("w<1&w<1&w<1&w<1&w<1&w<1&w<1&w<1&w<1&w<1&w<1&w<1&w<1&w<1&w=00");
        for (int i = 0; i < 8; i++) {
            x.call("ramp", i + 1, 9 - i, 30, 200);
        }
        for (int i = 0; i < 7; i++) {
            x.call("shot", i % 4, 10 + i, 0, 999, i, 7 - i);
        }
        for (int i = 0; i < 12; i++) {
            x.call("put", 6 - i);
        }
        for (int who = 0; who < 8; who++) {
            x.call("marks", who, 99999);
        }
        for (int i = 0; i < 60; i++) {
            x.call("run", i % 4, 10 + i, 100);
        }
        for (int i = 0; i < 20; i++) {
            x.call("plan", i % 4, 50, 10 * i + 1);
        }
        x.call("days", 999);
        x.call("takeBack", 59);
    }

    /** Everything that can be asked of an object, each question with its answer; the object is spent behind it. */
    List<String> allOf(Told x) {
        List<String> all = new ArrayList<>();
        for (int what = 0; what <= 17; what++) {
            if (what < 11 || what > 16) {
                ask(all, x, "count", what);
            }
        }
        askOfSet(all, x);
        askOfCamerasAndTexts(all, x);
        askOfDay(all, x);
        askOfRuns(all, x);
        askByChanging(all, x);
        return all;
    }

    private static void ask(List<String> all, Told x, String name, long... args) {
        StringBuilder line = new StringBuilder(name);
        for (long arg : args) {
            line.append(' ').append(arg);
        }
        all.add(line.append(" answers ").append(x.call(name, args)).toString());
    }

    private void askOfSet(List<String> all, Told x) {
        for (int m = 0; m < kinds().length; m++) {
            ask(all, x, "place", m, 20, 0);
            ask(all, x, "place", m, 600, slips()[m]);
            ask(all, x, "place", m, 600, slips()[m] + 1);
        }
        for (int what = 0; what <= 2; what++) {
            ask(all, x, "firstHit", what);
        }
        ask(all, x, "hit", 0, 1);
        ask(all, x, "hit", 1, 2);
        ask(all, x, "danger", 0, 10, 20);
        ask(all, x, "abort", 0);
        ask(all, x, "abort", 30);
        ask(all, x, "saved", 0, 0);
    }

    private void askOfCamerasAndTexts(List<String> all, Told x) {
        ask(all, x, "sees", 0, 210);
        ask(all, x, "sees", 1, 214);
        ask(all, x, "picture", 0, 15);
        ask(all, x, "picture", 1, 21);
        for (int what = 0; what <= 2; what++) {
            ask(all, x, "quarrels", what);
        }
        for (int call = 0; call <= 5; call++) {
            ask(all, x, "lets", call);
        }
    }

    private void askOfDay(List<String> all, Told x) {
        for (int what = 0; what <= 2; what++) {
            ask(all, x, "speeds", 1, what);
        }
        ask(all, x, "lands", 0, 50);
        for (int what = 0; what <= 8; what++) {
            ask(all, x, "best", what);
        }
        for (int star = 0; star <= 3; star++) {
            ask(all, x, "matched", star);
        }
    }

    private void askOfRuns(List<String> all, Told x) {
        for (int ground = 0; ground <= 3; ground++) {
            ask(all, x, "grip", ground, 0);
            ask(all, x, "grip", ground, Math.max(0, day() - 1));
            ask(all, x, "grip", ground, day());
        }
        ask(all, x, "stop", 0, 30, day());
        ask(all, x, "good", 0, day());
        ask(all, x, "good", 1, day());
        ask(all, x, "overtaken");
    }

    /** What only a change tells: what was there is answered by it. */
    private void askByChanging(List<String> all, Told x) {
        ask(all, x, "judge");
        ask(all, x, "feed", 3, Told.bytesOf("w<4"));
        ask(all, x, "text", 1);
        ask(all, x, "lets", 1);
        ask(all, x, "take");
        ask(all, x, "stride", 4);
        for (int what = 0; what <= 2; what++) {
            ask(all, x, "tell", what, 0);
        }
        for (int who = 0; who <= 7; who++) {
            ask(all, x, "marks", who, -1);
        }
        for (int m = 0; m < kinds().length; m++) {
            ask(all, x, "cue", m, 0, 0);
        }
        ask(all, x, "takeBack", 0);
        ask(all, x, "takeBack", runs() - 1);
        for (int cell : new int[] {0, 1, 230, 361, 398, 399}) {
            ask(all, x, "cover", cell, 0);
            ask(all, x, "safe", cell, 0);
        }
        ask(all, x, "leg", 0, 0, 1, 1, 0);
    }
}
