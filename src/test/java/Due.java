/** What the tests share: compares answers with those that are due, and ends a test. */
final class Due {
    private int wrong = 0;
    private int asked = 0;

    void is(String call, long got, long want) {
        asked++;
        if (got != want) {
            wrong++;
            System.out.println(call + " answered " + got + ", due is " + want);
        }
    }

    void same(String what, String got, String want) {
        asked++;
        if (!got.equals(want)) {
            wrong++;
            System.out.println(what + ": " + got + ", due is " + want);
        }
    }

    /** The refusals -1 .. -6 as count(11) .. count(16) tell them. */
    void refused(StuntSet x, int nobody, int other, int state, int below, int room) {
        is("count(11)", x.count(11), nobody);
        is("count(12)", x.count(12), other);
        is("count(13)", x.count(13), state);
        is("count(14)", x.count(14), below);
        is("count(15)", x.count(15), 0);
        is("count(16)", x.count(16), room);
    }

    void end(String test) {
        System.out.println(test + ": " + (asked - wrong) + " of " + asked + " answers are as due");
        if (wrong != 0) {
            System.exit(1);
        }
    }
}
