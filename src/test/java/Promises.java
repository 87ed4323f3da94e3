import java.util.ArrayList;
import java.util.List;

/** The refusals of every call of the face, as the document tells them, for an object of a scene. */
final class Promises {
    private static final int NOBODY = Promise.NOBODY;
    private static final int OTHER = Promise.OTHER;
    private static final int STATE = Promise.STATE;
    private static final int BELOW = Promise.BELOW;
    private static final int ROOM = Promise.ROOM;
    private static final int CELLS = 400;
    private static final int[] DIRECTION_X = {1, 1, 0, -1, -1, -1, 0, 1};
    private static final int[] DIRECTION_Y = {0, 1, 1, 1, 0, -1, -1, -1};

    private final Scene scene;
    private final int movers;
    private final List<Promise> all = new ArrayList<>();

    private Promises(Scene scene) {
        this.scene = scene;
        this.movers = scene.kinds().length;
    }

    static List<Promise> of(Scene scene) {
        Promises table = new Promises(scene);
        table.ofSet();
        table.ofHits();
        table.ofCameras();
        table.ofTexts();
        table.ofRamps();
        table.ofShots();
        table.ofMarks();
        table.ofRuns();
        return table.all;
    }

    private Promise promise(int number, String call, int... order) {
        Promise p = new Promise(number, call, order);
        all.add(p);
        return p;
    }

    private void ofSet() {
        promise(2, "cover", NOBODY).oneOf(CELLS, NOBODY).any(0, 1);
        promise(3, "safe", NOBODY).oneOf(CELLS, NOBODY).any(0, 1);
        promise(4, "mover", OTHER, NOBODY, BELOW, ROOM)
                .oneOf(2, OTHER).from(0, 3).oneOf(CELLS, NOBODY).from(0, 600).from(0, 9)
                .also(ROOM, a -> movers >= 12)
                .answers(a -> movers);
        promise(5, "leg", NOBODY, OTHER, BELOW, ROOM, STATE)
                .oneOf(movers, NOBODY).oneOf(8, OTHER).from(1, 19).from(1, 20).from(0, 99)
                .also(ROOM, a -> scene.legs()[(int) a[0]] >= 10)
                .also(STATE, a -> leavesSet(scene.ends()[(int) a[0]], (int) a[1], (int) a[2]))
                .answers(a -> scene.legs()[(int) a[0]] + 1);
        promise(6, "cue", NOBODY, BELOW, ROOM)
                .oneOf(movers, NOBODY).from(0, 600).from(0, 9)
                .answers(a -> scene.cues()[(int) a[0]]);
        promise(7, "place", NOBODY, BELOW, ROOM)
                .oneOf(movers, NOBODY).from(0, 600).from(0, 9)
                .also(ROOM, a -> a[2] > scene.slips()[(int) a[0]]);
    }

    private static boolean leavesSet(int end, int direction, int cells) {
        int x = end % 20 + cells * DIRECTION_X[direction];
        int y = end / 20 + cells * DIRECTION_Y[direction];
        return x < 0 || x > 19 || y < 0 || y > 19;
    }

    private boolean isCar(long mover) {
        return scene.kinds()[(int) mover] == 1;
    }

    private void ofHits() {
        promise(8, "hit", NOBODY).oneOf(movers, NOBODY).oneOf(movers, NOBODY).also(NOBODY, a -> a[0] == a[1]);
        promise(9, "firstHit", OTHER).oneOf(3, OTHER);
        promise(10, "stride", BELOW, ROOM).from(1, 20).answers(a -> scene.strideWas());
        promise(11, "danger", NOBODY, OTHER, BELOW, ROOM)
                .oneOf(movers, NOBODY).oneOf(CELLS, NOBODY).from(0, 600)
                .also(OTHER, a -> isCar(a[0]));
        promise(12, "abort", BELOW, ROOM).from(0, 600);
        promise(13, "saved", NOBODY, OTHER, BELOW, ROOM)
                .oneOf(movers, NOBODY).from(0, 600)
                .also(OTHER, a -> isCar(a[0]));
    }

    private void ofCameras() {
        int cameras = scene.cameras();
        promise(14, "camera", NOBODY, OTHER, BELOW, ROOM)
                .oneOf(CELLS, NOBODY).oneOf(8, OTHER).from(0, 2).from(1, 19).from(0, 600).from(0, 600)
                .also(BELOW, a -> a[5] < a[4])
                .also(ROOM, a -> cameras >= 8)
                .answers(a -> cameras);
        promise(15, "sees", NOBODY).oneOf(cameras, NOBODY).oneOf(CELLS, NOBODY);
        promise(16, "quarrels", OTHER).oneOf(3, OTHER);
        promise(17, "picture", NOBODY, BELOW, ROOM).oneOf(cameras, NOBODY).from(0, 600);
    }

    private void ofTexts() {
        promise(18, "tell", OTHER, BELOW, ROOM)
                .oneOf(3, OTHER).any(Integer.MIN_VALUE, -1, 0, 99, 100, 999, 1000, Integer.MAX_VALUE)
                .also(BELOW, a -> a[1] < 0)
                .also(ROOM, a -> a[1] > (a[0] == 2 ? 999 : 99))
                .answers(a -> scene.toldWas(a[0]));
        promise(19, "feed", BELOW, ROOM)
                .from(1, 8).any(Long.MIN_VALUE, -1, 0, Long.MAX_VALUE)
                .also(ROOM, a -> scene.bytesOnTape() + a[0] > 60)
                .answers(a -> (int) (scene.bytesOnTape() + a[0]));
        // What lies on the tape is no text in either scene that has room for one: its fault is no refusal.
        promise(20, "text", NOBODY, ROOM)
                .oneOf(6, NOBODY)
                .also(ROOM, a -> scene.texts() >= 40)
                .answers(a -> -20 - scene.bytesOnTape());
        promise(21, "lets", NOBODY).oneOf(6, NOBODY);
        promise(22, "take", STATE).also(STATE, a -> !scene.goIsLet()).answers(a -> scene.takes() + 1);
    }

    private void ofRamps() {
        int ramps = scene.ramps();
        promise(23, "ramp", BELOW, ROOM)
                .from(1, 99).from(1, 99).from(1, 999).from(1, 999)
                .also(ROOM, a -> ramps >= 8)
                .answers(a -> ramps);
        promise(24, "lands", NOBODY, BELOW, ROOM).oneOf(ramps, NOBODY).from(1, 99);
        promise(25, "speeds", NOBODY, OTHER).oneOf(ramps, NOBODY).oneOf(3, OTHER);
        promise(26, "bags", BELOW, ROOM).from(1, 999).from(1, 99);
        promise(27, "fire", BELOW, ROOM).from(0, 99).from(1, 9).from(0, 999).from(0, 999);
    }

    private void ofShots() {
        int shots = scene.shots();
        promise(28, "shot", NOBODY, BELOW, ROOM)
                .oneOf(4, NOBODY).from(1, 300).from(0, 999).from(0, 999).from(0, 999).from(0, 99)
                .also(BELOW, a -> a[3] < a[2])
                .also(ROOM, a -> shots >= 7)
                .answers(a -> shots);
        promise(29, "best", OTHER).oneOf(9, OTHER);
        promise(30, "put", BELOW, ROOM)
                .from(-128, 127)
                .also(ROOM, a -> scene.bytesOfRow() >= 12)
                .answers(a -> scene.bytesOfRow() + 1);
        promise(31, "judge");
    }

    private void ofMarks() {
        promise(32, "marks", NOBODY, BELOW, ROOM)
                .oneOf(8, NOBODY).from(-1, 99999)
                .answers(a -> scene.marksWere(a[0]));
        promise(33, "matched", NOBODY).oneOf(4, NOBODY);
    }

    private void ofRuns() {
        promise(34, "days", BELOW, ROOM)
                .from(1, 999 - scene.day())
                .answers(a -> (int) (scene.day() + a[0]));
        promise(35, "run", NOBODY, BELOW, ROOM)
                .oneOf(4, NOBODY).from(1, 99).from(1, 9999)
                .also(ROOM, a -> scene.runs() >= 60)
                .answers(a -> scene.runs());
        promise(36, "takeBack", NOBODY, STATE)
                .oneOf(scene.runs(), NOBODY)
                .also(STATE, a -> scene.isTakenBack(a[0]))
                .answers(a -> 1);
        promise(37, "grip", NOBODY, BELOW, ROOM).oneOf(4, NOBODY).from(0, 999);
        promise(38, "stop", NOBODY, BELOW, ROOM).oneOf(4, NOBODY).from(1, 99).from(0, 999);
        promise(39, "plan", NOBODY, BELOW, ROOM)
                .oneOf(4, NOBODY).from(1, 99).from(1, 99999)
                .also(ROOM, a -> scene.plans() >= 20)
                .answers(a -> scene.plans());
        promise(40, "good", NOBODY, BELOW, ROOM).oneOf(scene.plans(), NOBODY).from(0, 999);
        promise(41, "overtaken");
        promise(42, "count").any(Integer.MIN_VALUE, -1, 0, 17, 18, Integer.MAX_VALUE);
    }
}
