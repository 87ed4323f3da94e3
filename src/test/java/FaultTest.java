/** FAULT: "the place of the first byte that can not stand (the end, if something lacks; of a sixth its own)". */
public final class FaultTest {
    private static final Due due = new Due();
    private static final String DIGITS = "0123456789";
    private static final String LETTERS = "wgsthqb";
    private static final String SIGNS = "<=>";
    private static final String MORE = "&|";

    public static void main(String[] args) {
        everyByteEverywhere();
        theEnd();
        deep();
        longest();
        tapeBehindText();
        due.end("FaultTest");
    }

    private static int text(String signs) {
        return new Told().feed(signs).call("text", 0);
    }

    private static void fault(String signs, int place) {
        due.is("text " + signs, text(signs), -20 - place);
    }

    private static void noFault(String signs) {
        due.is("text " + signs, text(signs), 1);
    }

    /** Behind a beginning each byte either can stand, and then what is wrong comes later, or is the fault itself. */
    private static void behind(String begun, String canStand) {
        for (int b = 0; b <= 255; b++) {
            String signs = begun + (char) b + (char) 1;
            boolean stands = canStand.indexOf(b) >= 0;
            due.is("byte " + b + " behind " + begun, text(signs), -20 - begun.length() - (stands ? 1 : 0));
        }
    }

    private static void everyByteEverywhere() {
        String begins = "!(" + DIGITS + LETTERS;
        behind("", begins);
        behind("!", begins);
        behind("(", begins);
        behind("w<1&", begins);
        behind("w<1|", begins);
        behind("!!!!!", DIGITS + LETTERS);
        behind("(((((", DIGITS + LETTERS);
        behind("w", SIGNS);
        behind("1", DIGITS + SIGNS);
        behind("12", DIGITS + SIGNS);
        behind("123", DIGITS + SIGNS);
        behind("1234", SIGNS);
        for (int i = 0; i < SIGNS.length(); i++) {
            behind("w" + SIGNS.charAt(i), DIGITS + LETTERS);
        }
        behind("w<w", MORE);
        behind("w<1", MORE + DIGITS);
        behind("w<123", MORE + DIGITS);
        behind("w<1234", MORE);
        behind("(w<w", MORE + ")");
        behind("(w<1", MORE + DIGITS + ")");
        behind("(w<1)", MORE);
        behind("!w<w", MORE);
        behind("(!(w<1)", MORE + ")");
        behind("((w<1))", MORE);
    }

    /** Something lacks: the place is the end. */
    private static void theEnd() {
        String[] lacking = {"", "!", "(", "w", "9", "9999", "w<", "w=", "w>", "w<1&", "w<1|", "(w<1", "(w<1&", "((w<1)",
            "!(w<1", "!!!!!", "((((("};
        for (String signs : lacking) {
            fault(signs, signs.length());
        }
    }

    /** "!" and "(" are 5 deep at most, together: every mixture of five stands, and of six the sixth does not. */
    private static void deep() {
        for (int mixture = 0; mixture < 64; mixture++) {
            StringBuilder opens = new StringBuilder();
            StringBuilder closes = new StringBuilder();
            for (int i = 0; i < 6; i++) {
                boolean round = (mixture >> i & 1) != 0;
                if (i == 5) {
                    fault(opens.toString() + (round ? "(" : "!") + "w<1" + (round ? ")" : "") + closes, 5);
                    break;
                }
                opens.append(round ? '(' : '!');
                closes.append(round ? ")" : "");
            }
            noFault(opens + "w<1" + closes);
        }
        noFault("(((((w<1)))))|(((((w<1)))))&!!!!!w<1|!(!(!w<1))");
        noFault("!!!!!w<1&!!!!!w<1|(!!!!w<1&!!!!w<1)");
        fault("(((((w<1)))))|((((((w<1))))))", 19);
        fault("(!!!!w<1&!!!!!w<1)", 13);
        fault("(((((w<1)&((w<1)))))", 11);
    }

    /** TEXTS (60 bytes at most): one of 60 is told, and its last byte counts. */
    private static void longest() {
        String most = "w<1&w<1&w<1&w<1&w<1&w<1&w<1&w<1&w<1&w<1&w<1&w<1&w<1&w<1&";
        for (int last = 0; last <= 1; last++) {
            Told x = new Told().feed(most + "w=0" + last);
            due.is("bytes on the tape", x.call("count", 9), 60);
            due.is("one byte more", x.call("feed", 1, '0'), -6);
            due.is("text of 60", x.call("text", 0), 1);
            due.is("w=0" + last + " at its end", x.call("lets", 0), 1 - last);
        }
        fault(most + "w=0)", 59);
        fault(most + "w=0&", 60);
        noFault("1=1");
    }

    /** (Refused: THE TAPE stays.) Behind a text and behind a FAULT it has none. */
    private static void tapeBehindText() {
        Told x = new Told().feed("1=1");
        for (int call : new int[] {Integer.MIN_VALUE, -1, 6, Integer.MAX_VALUE}) {
            due.is("text(" + call + ")", x.call("text", call), -1);
            due.is("the tape stays", x.call("count", 9), 3);
        }
        due.is("what stayed is the text", x.call("text", 0), 1);
        due.is("the tape has none", x.call("count", 9), 0);
        due.is("GO is let by it", x.call("lets", 0), 1);
        x.feed("1=2&");
        due.is("a fault at the end", x.call("text", 0), -24);
        due.is("the tape has none", x.call("count", 9), 0);
        due.is("the text told last is in force", x.call("lets", 0), 1);
        due.is("nothing is counted", x.call("count", 2), 1);
        x.feed("1=2");
        due.is("nothing of the fault is ahead of it", x.call("text", 0), 2);
        due.is("GO is not let by it", x.call("lets", 0), 0);
        Told full = Scene.FULL.make();
        due.is("the 41st", full.call("text", 0), -6);
        due.is("the tape stays", full.call("count", 9), 60);
        due.is("and again", full.call("text", 5), -6);
        due.is("the 41st of no CALL", full.call("text", 6), -1);
        due.is("the tape stays", full.call("count", 9), 60);
        due.is("texts told", full.call("count", 2), 40);
        Told faulty = new Told();
        for (int i = 1; i <= 39; i++) {
            faulty.feed("1=1").call("text", 0);
        }
        due.is("a fault as the 40th", faulty.feed("1").call("text", 0), -21);
        due.is("is not counted: a 40th", faulty.feed("1=2").call("text", 0), 40);
        due.is("is in force", faulty.call("lets", 0), 0);
        due.is("a fault as the 41st is not looked at", faulty.feed("1").call("text", 0), -6);
        due.is("and stays", faulty.call("count", 9), 1);
        due.is("refusals -6", faulty.call("count", 16), 1);
    }
}
