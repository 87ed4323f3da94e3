import java.util.Random;

/** "An object is used for at most 512 calls after it has been made": the 512th is answered as promised. */
public final class CallsTest {
    private static final Due due = new Due();

    public static void main(String[] args) {
        refusedCalls();
        takes();
        days();
        covers();
        feedsAndFaults();
        beyondTheLast();
        due.end("CallsTest");
    }

    private static void refusedCalls() {
        Told x = new Told();
        for (int i = 1; i < Told.MOST_CALLS; i++) {
            due.is("cover(400, true) as call " + i, x.call("cover", 400, 1), -1);
        }
        due.is("count(11) as call 512", x.call("count", 11), 511);
        due.is("calls", x.calls(), 512);
    }

    private static void takes() {
        Told x = new Told();
        x.feed("t<9999").call("text", 0);
        for (int i = 1; i <= 509; i++) {
            due.is("take " + i, x.call("take"), i);
        }
        due.is("take 510 as call 512", x.call("take"), 510);
        due.is("calls", x.calls(), 512);
    }

    private static void days() {
        Told x = new Told();
        for (int i = 1; i <= Told.MOST_CALLS; i++) {
            due.is("days(1) as call " + i, x.call("days", 1), i);
        }
    }

    private static void covers() {
        Told x = new Told();
        for (int i = 1; i <= Told.MOST_CALLS; i++) {
            due.is("cover(399) as call " + i, x.call("cover", 399, i % 2), 1);
        }
    }

    /** A text with a fault is not counted among the forty, however often it comes. */
    private static void feedsAndFaults() {
        Told x = new Told();
        for (int i = 1; i <= 255; i++) {
            due.is("feed", x.call("feed", 1, 'w'), 1);
            due.is("text with a fault", x.call("text", i % 6), -21);
        }
        due.is("feed", x.call("feed", 3, Told.bytesOf("1=1")), 3);
        due.is("the first text as call 512", x.call("text", 0), 1);
        due.is("calls", x.calls(), 512);
    }

    /** What later calls answer is free; but none throws. */
    private static void beyondTheLast() {
        StuntSet x = new StuntSet();
        Random random = new Random(7);
        for (int i = 0; i < 3000; i++) {
            int a = random.nextInt(14) - 1;
            int b = random.nextInt(14) - 1;
            int c = random.nextInt(14) - 1;
            x.cover(a, true);
            x.safe(30 + b, true);
            x.mover(a & 1, 0, 20 + b, c, a);
            x.leg(a, b, c, 1, 0);
            x.place(a, b, c);
            x.hit(a, b);
            x.saved(a, b);
            x.camera(20 * a, b, 1, 19, 0, c);
            x.quarrels(a);
            x.picture(a, b);
            x.feed(3, 0x313D31);
            x.text(a);
            x.take();
            x.ramp(1, 1, 1, 1);
            x.lands(a, b);
            x.shot(a, 1, 0, 999, 0, 0);
            x.best(a);
            x.put(a);
            x.run(a, 1, 1);
            x.takeBack(i);
            x.plan(a, 1, 1);
            x.good(a, b);
            x.days(1);
        }
        due.is("the object still answers", x.count(-1), -9);
    }
}
