/** Promises 18 to 22: tell, feed, text, lets, take. */
public final class TextTest {
    private static final Due due = new Due();

    public static void main(String[] args) {
        tells();
        feeds();
        faults();
        depths();
        truths();
        letters();
        inForce();
        mostTexts();
        takes();
        due.end("TextTest");
    }

    /** Feeds all bytes of a text, eight at a time. */
    private static void feed(StuntSet x, String text) {
        for (int i = 0; i < text.length(); i += 8) {
            int n = Math.min(8, text.length() - i);
            x.feed(n, Told.bytesOf(text.substring(i, i + n)));
        }
    }

    private static void fault(String text, int place) {
        StuntSet x = new StuntSet();
        feed(x, text);
        due.is("fault of " + text, x.text(0), -20 - place);
        due.is("tape behind the fault of " + text, x.count(9), 0);
        due.is("texts behind the fault of " + text, x.count(2), 0);
        due.refused(x, 0, 0, 0, 0, 0);
    }

    /** Whether the text, told for GO on that object, lets it. */
    private static void lets(StuntSet x, String text, int want) {
        int told = x.count(2);
        feed(x, text);
        due.is("text " + text, x.text(0), told + 1);
        due.is("lets " + text, x.lets(0), want);
    }

    private static void tells() {
        StuntSet x = new StuntSet();
        due.is("tell(0, 99)", x.tell(0, 99), 0);
        due.is("tell(1, 98)", x.tell(1, 98), 0);
        due.is("tell(2, 999)", x.tell(2, 999), 0);
        due.is("tell(-1, -1)", x.tell(-1, -1), -2);
        due.is("tell(3, 1000)", x.tell(3, 1000), -2);
        due.is("tell(0, -1)", x.tell(0, -1), -4);
        due.is("tell(2, -1)", x.tell(2, -1), -4);
        due.is("tell(0, 100)", x.tell(0, 100), -6);
        due.is("tell(1, 100)", x.tell(1, 100), -6);
        due.is("tell(2, 1000)", x.tell(2, 1000), -6);
        due.is("tell(0, 0)", x.tell(0, 0), 99);
        due.is("tell(1, 1)", x.tell(1, 1), 98);
        due.is("tell(2, 2)", x.tell(2, 2), 999);
        due.refused(x, 0, 2, 0, 2, 3);
    }

    private static void feeds() {
        StuntSet x = new StuntSet();
        due.is("feed(0)", x.feed(0, 0), -4);
        due.is("feed(-1)", x.feed(-1, 0), -4);
        due.is("feed(9)", x.feed(9, 0), -6);
        due.is("feed(3), more bytes than are taken", x.feed(3, 0x7C7C7C313C77L), 3);
        due.is("text(0)", x.text(0), 1);
        due.is("w<1", x.lets(0), 1);
        for (int i = 1; i <= 7; i++) {
            due.is("feed 8", x.feed(8, -1L), 8 * i);
        }
        due.is("57 .. 61", x.feed(5, 0), -6);
        due.is("57 .. 60", x.feed(4, 0), 60);
        due.is("61", x.feed(1, 0), -6);
        due.is("count(9)", x.count(9), 60);
        due.is("its fault", x.text(0), -20);
        due.is("count(9)", x.count(9), 0);
        due.refused(x, 0, 0, 0, 2, 3);
    }

    private static void faults() {
        fault("", 0);
        fault("x", 0);
        fault("w", 1);
        fault("w<", 2);
        fault("<1", 0);
        fault("ww", 1);
        fault("w<1w", 3);
        fault("w<1<", 3);
        fault("w<1&", 4);
        fault("w<1|", 4);
        fault("w<1&&w<1", 4);
        fault("w<1||w<1", 4);
        fault("w<1)", 3);
        fault("(w<1", 4);
        fault("(w<1|", 5);
        fault("()", 1);
        fault("(w)<1", 2);
        fault("!", 1);
        fault("!w", 2);
        fault("w!<1", 1);
        fault("w<!1", 2);
        fault("w<(1)", 2);
        fault("w<1!", 3);
        fault("w<1(", 3);
        fault("12345<1", 4);
        fault("1<12345", 6);
        fault("w<=1", 2);
        fault(" w<1", 0);
        fault("w <1", 1);
        fault("w<1 ", 3);
        fault("W<1", 0);
        fault("w<-1", 2);
        fault("1w<1", 1);
        fault("w1<1", 1);
        fault("((w<1)|(w<1", 11);
        fault("(w<1)w", 5);
        fault("w<1" + (char) 0, 3);
        fault((char) 0xE7 + "<1", 0);
        fault("w<1&w<1&w<1&w<1&w<1&w<1&w<1&w<1&w<1&w<1&w<1&w<1&w<1&w<1&w<1&", 60);
    }

    private static void depths() {
        fault("!!!!!!w<1", 5);
        fault("((((((w<1))))))", 5);
        fault("!(!(!(w<1)))", 5);
        fault("(((((!w<1)))))", 5);
        fault("((((((", 5);
        fault("!!!!!", 5);
        fault("(((((w<1|(", 9);
        fault("!(((w<1)&!((w<1)))", 11);
        fault("!(((w<1)&!(w<1))", 16);
        fault("!(((w<1)&!(!w<1)))", 11);
        StuntSet x = new StuntSet();
        lets(x, "!!!!!w<1", 0);
        lets(x, "!!!!w<1", 1);
        lets(x, "(((((w<1)))))", 1);
        lets(x, "!(!(!w<1))", 0);
        lets(x, "(((((w<1)))))&(((((w<1)))))&!!!!w<1", 1);
        lets(x, "(((((w<1))|((w<1)))))", 1);
    }

    private static void truths() {
        StuntSet x = new StuntSet();
        lets(x, "1<2", 1);
        lets(x, "2<2", 0);
        lets(x, "3<2", 0);
        lets(x, "2=2", 1);
        lets(x, "2=3", 0);
        lets(x, "3>2", 1);
        lets(x, "2>2", 0);
        lets(x, "2>3", 0);
        lets(x, "0002=2", 1);
        lets(x, "9999>9998", 1);
        lets(x, "1=1|1=1&1=2", 1);
        lets(x, "(1=1|1=1)&1=2", 0);
        lets(x, "1=2&1=1|1=1", 1);
        lets(x, "1=2&(1=1|1=1)", 0);
        lets(x, "!1=2&1=1", 1);
        lets(x, "!1=1|1=1", 1);
        lets(x, "!(1=1|1=1)", 0);
        lets(x, "1=2|1=2|1=1", 1);
        lets(x, "1=1&1=1&1=2", 0);
        lets(x, "1=2&1=2|1=2&1=1", 0);
        lets(x, "w<1&w<1&w<1&w<1&w<1&w<1&w<1&w<1&w<1&w<1&w<1&w<1&w<1&w<1&w=00", 1);
    }

    private static void letters() {
        StuntSet x = new StuntSet();
        lets(x, "w=0&g=0&s=0&t=0&h=0&q=0&b=0", 1);
        x.tell(0, 11);
        x.tell(1, 22);
        x.tell(2, 333);
        lets(x, "w=11&g=22&s=333", 1);
        lets(x, "t=0", 1);
        x.take();
        lets(x, "t=1", 1);
        x.mover(0, 0, 0, 10, 0);
        lets(x, "h=0", 1);
        lets(x, "b=1", 1);
        x.safe(3, true);
        due.is("b is 0 now", x.lets(0), 0);
        x.mover(0, 0, 219, 0, 0);
        lets(x, "b=0", 1);
        x.mover(1, 0, 219, 0, 0);
        lets(x, "h=1", 1);
        due.is("lets once more", x.lets(0), 1);
        lets(x, "b=1", 1);
        x.mover(1, 0, 2, 5, 0);
        x.leg(3, 4, 2, 2, 0);
        x.leg(3, 0, 19, 1, 0);
        lets(x, "b=1", 1);
        x.cue(0, 9, 0);
        due.is("at 9 the car is at 0", x.lets(0), 0);
        lets(x, "b=2", 1);
        x.camera(100, 0, 0, 19, 0, 9);
        x.camera(101, 0, 0, 19, 0, 9);
        x.camera(102, 0, 0, 19, 0, 9);
        lets(x, "q=3", 1);
        lets(x, "q>2&h=1&b=2&s>332&g<23", 1);
        StuntSet y = new StuntSet();
        y.mover(1, 0, 0, 100, 0);
        y.leg(0, 0, 5, 1, 0);
        y.mover(0, 0, 5, 0, 0);
        y.safe(5, true);
        lets(y, "b=0", 1);
        y.cue(0, 105, 0);
        y.cue(1, 0, 9);
        due.is("a car as mover 0: at its cue", y.lets(0), 1);
        y.cover(0, true);
        y.safe(5, false);
        due.is("no safe cell", y.lets(0), 0);
    }

    private static void inForce() {
        StuntSet x = new StuntSet();
        due.is("lets(-1)", x.lets(-1), -1);
        due.is("lets(6)", x.lets(6), -1);
        feed(x, "1=2");
        due.is("text(-1)", x.text(-1), -1);
        due.is("text(6)", x.text(6), -1);
        due.is("the tape stays", x.count(9), 3);
        due.is("text(5)", x.text(5), 1);
        due.is("lets(5)", x.lets(5), 0);
        due.is("lets(4)", x.lets(4), 1);
        feed(x, "1=1");
        due.is("text(5)", x.text(5), 2);
        due.is("the last told is in force", x.lets(5), 1);
        feed(x, "1=2");
        due.is("text(4)", x.text(4), 3);
        feed(x, "1=1)");
        due.is("a fault changes nothing", x.text(4), -23);
        due.is("lets(4)", x.lets(4), 0);
        feed(x, "w=5|g=5|s=5");
        due.is("text(4)", x.text(4), 4);
        feed(x, "1=1");
        due.is("a shorter one", x.text(4), 5);
        due.is("lets(4)", x.lets(4), 1);
        due.refused(x, 4, 0, 0, 0, 0);
    }

    private static void mostTexts() {
        StuntSet x = new StuntSet();
        for (int i = 1; i <= 40; i++) {
            feed(x, "1=1");
            due.is("text " + i, x.text(i % 6), i);
        }
        feed(x, "1=2");
        due.is("text 41", x.text(0), -6);
        due.is("the tape stays", x.count(9), 3);
        due.is("no such call goes first", x.text(6), -1);
        feed(x, ")");
        due.is("a fault is not looked at", x.text(0), -6);
        due.is("the tape stays", x.count(9), 4);
        due.is("lets(0)", x.lets(0), 1);
        due.is("count(2)", x.count(2), 40);
        due.refused(x, 1, 0, 0, 0, 2);
    }

    private static void takes() {
        StuntSet x = new StuntSet();
        due.is("without a text", x.take(), -3);
        feed(x, "t<3");
        x.text(0);
        due.is("take 1", x.take(), 1);
        due.is("take 2", x.take(), 2);
        due.is("take 3", x.take(), 3);
        due.is("no more", x.take(), -3);
        due.is("count(3)", x.count(3), 3);
        feed(x, "1=2");
        x.text(1);
        feed(x, "1=1");
        x.text(0);
        due.is("a stop does not matter", x.take(), 4);
        due.refused(x, 0, 0, 2, 0, 0);
    }
}
