/** Promises 32 and 33: marks and matched. */
public final class MarksTest {
    private static final Due due = new Due();

    public static void main(String[] args) {
        refusals();
        unlike();
        mostFirst();
        leastUnlike();
        leastDouble();
        noneBehindAll();
        due.end("MarksTest");
    }

    private static void refusals() {
        StuntSet x = new StuntSet();
        due.is("marks(-1, -2)", x.marks(-1, -2), 1000000001);
        due.is("marks(8, 100000)", x.marks(8, 100000), 1000000001);
        due.is("marks(0, -2)", x.marks(0, -2), 1000000004);
        due.is("marks(0, 100000)", x.marks(0, 100000), 1000000006);
        due.is("marks(7, 99999)", x.marks(7, 99999), -1);
        due.is("marks(7, 0)", x.marks(7, 0), 99999);
        due.is("marks(7, -1)", x.marks(7, -1), 0);
        due.is("marks(7, 5)", x.marks(7, 5), -1);
        due.is("matched(-1)", x.matched(-1), -1);
        due.is("matched(4)", x.matched(4), -1);
        due.is("matched(3)", x.matched(3), -9);
        due.refused(x, 4, 0, 0, 1, 1);
    }

    private static void all(StuntSet x, int... marks) {
        for (int who = 0; who < marks.length; who++) {
            x.marks(who, marks[who]);
        }
    }

    private static void matches(String name, StuntSet x, int... want) {
        for (int star = 0; star < 4; star++) {
            due.is(name + ": matched(" + star + ")", x.matched(star), want[star]);
        }
    }

    private static void unlike() {
        StuntSet x = new StuntSet();
        all(x, 12345, -1, -1, -1, 12300);
        matches("two digits", x, 0, -9, -9, -9);
        x.marks(4, 12000);
        matches("three digits", x, -9, -9, -9, -9);
        x.marks(4, 2344);
        matches("the first and the last", x, 0, -9, -9, -9);
        all(x, 0, -1, -1, -1, 1000);
        matches("leading noughts", x, 0, -9, -9, -9);
        x.marks(4, 11100);
        matches("three of five", x, -9, -9, -9, -9);
        x.marks(0, -1);
        x.marks(4, -1);
        matches("none and none", x, -9, -9, -9, -9);
        x.marks(4, 0);
        matches("none and 0", x, -9, -9, -9, -9);
    }

    private static void mostFirst() {
        StuntSet x = new StuntSet();
        // Star 0 is like double 0 wholly, but star 1 has no other.
        all(x, 11111, 11122, -1, -1, 11111, 11000);
        matches("one only", x, 0, -9, -9, -9);
        x.marks(5, 11311);
        matches("both, star 0 gives way to none", x, 1, 0, -9, -9);
    }

    private static void leastUnlike() {
        StuntSet x = new StuntSet();
        all(x, 11112, 11111, -1, -1, 11111, 11112);
        matches("0 together", x, 1, 0, -9, -9);
        all(x, 10000, 10001, 10002, 10003, 10003, 10002, 10001, 10000);
        matches("0 together", x, 3, 2, 1, 0);
    }

    private static void leastDouble() {
        StuntSet x = new StuntSet();
        all(x, 7, 7, 7, 7, 7, 7, 7, 7);
        matches("by numbers", x, 0, 1, 2, 3);
        x.marks(0, -1);
        matches("a star too many: the last has none", x, 1, 2, 3, -9);
        x.marks(0, 7);
        x.marks(5, -1);
        matches("star 1 has no marks", x, 0, -9, 1, 2);
    }

    private static void noneBehindAll() {
        StuntSet x = new StuntSet();
        all(x, -1, -1, -1, 55555, 55511, 55511, 55511, 55522);
        matches("the least star of equals", x, 3, -9, -9, -9);
        x.marks(6, 55551);
        matches("but the least unlike goes first", x, -9, -9, 3, -9);
    }
}
