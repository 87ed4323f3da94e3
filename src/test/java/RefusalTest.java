import java.io.IOException;
import java.nio.file.Files;
import java.nio.file.Path;
import java.util.ArrayList;
import java.util.Arrays;
import java.util.List;
import java.util.regex.Matcher;
import java.util.regex.Pattern;

/**
 * REFUSALS: of every call, in every scene, each argument's least int, first below, least, greatest, first above and
 * greatest int, with all of those of the others. The first refusal that fits is the one that is due, it is counted
 * once, and nothing else changes.
 */
public final class RefusalTest {
    private static final Due due = new Due();
    /** How many refused calls one object takes, so that it is used for 512 calls at most with all that is asked of it. */
    private static final int AT_ONCE = 80;
    private static final int REFUSAL_KINDS = 6;

    public static void main(String[] args) throws IOException {
        for (Scene scene : Scene.values()) {
            List<String> untouched = scene.allOf(scene.make());
            for (Promise p : Promises.of(scene)) {
                refused(scene, p, untouched);
                taken(scene, p);
            }
        }
        everyEdgeIsTaken();
        ordersAreTheDocuments();
        due.end("RefusalTest");
    }

    private static String told(Scene scene, Promise p, long[] args) {
        return scene + ": " + p.call + Arrays.toString(args);
    }

    private static int[] refusalsOf(Told x) {
        int[] counted = new int[REFUSAL_KINDS];
        for (int i = 0; i < REFUSAL_KINDS; i++) {
            counted[i] = x.call("count", 11 + i);
        }
        return counted;
    }

    private static void refused(Scene scene, Promise p, List<String> untouched) {
        List<long[]> some = new ArrayList<>();
        for (long[] args : p.together()) {
            if (p.due(args) != Promise.TAKEN) {
                some.add(args);
            }
            if (some.size() == AT_ONCE) {
                refusedAtOnce(scene, p, some, untouched);
                some.clear();
            }
        }
        refusedAtOnce(scene, p, some, untouched);
    }

    private static void refusedAtOnce(Scene scene, Promise p, List<long[]> calls, List<String> untouched) {
        if (calls.isEmpty()) {
            return;
        }
        Told x = scene.make();
        int[] counted = new int[REFUSAL_KINDS];
        for (long[] args : calls) {
            int refusal = p.due(args);
            counted[-refusal - 1]++;
            due.is(told(scene, p, args), x.call(p.call, args), p.told(refusal));
        }
        String these = told(scene, p, calls.get(0)) + " and those behind it: ";
        int[] are = refusalsOf(x);
        for (int i = 0; i < REFUSAL_KINDS; i++) {
            due.is(these + "count(" + (11 + i) + ")", are[i], counted[i]);
        }
        List<String> all = scene.allOf(x);
        for (int i = 0; i < untouched.size(); i++) {
            due.same(these + "changed something", all.get(i), untouched.get(i));
        }
    }

    private static void taken(Scene scene, Promise p) {
        for (long[] args : p.together()) {
            if (p.due(args) == Promise.TAKEN) {
                Told x = scene.make();
                int answer = x.call(p.call, args);
                if (p.hasAnswer()) {
                    due.is(told(scene, p, args), answer, p.answerTo(args));
                }
                due.is(told(scene, p, args) + " counted as refused", Arrays.stream(refusalsOf(x)).sum(), 0);
            }
        }
    }

    /** Each least and each greatest is taken with some of the others: else the table would not show that it is. */
    private static void everyEdgeIsTaken() {
        for (Promise p : Promises.of(Scene.SOME)) {
            for (int i = 0; i < p.argumentCount(); i++) {
                for (long edge : p.edges(i)) {
                    int at = i;
                    boolean taken = p.together().stream()
                            .anyMatch(args -> args[at] == edge && p.due(args) == Promise.TAKEN);
                    boolean canBe = edge == 0 || !isRefusedByItsState(p.call, i);
                    due.is(p.call + ", argument " + i + ", " + edge + " is taken", taken ? 1 : 0, canBe ? 1 : 0);
                }
            }
        }
    }

    /** The last mover of the scene is a CAR, and its last run is taken back. */
    private static boolean isRefusedByItsState(String call, int argument) {
        return call.equals("takeBack") || argument == 0 && (call.equals("danger") || call.equals("saved"));
    }

    /** The table's refusals stand in the document, in its order. */
    private static void ordersAreTheDocuments() throws IOException {
        String document = Files.readString(Path.of("../shared/DOC.md"));
        List<Promise> table = Promises.of(Scene.EMPTY);
        due.is("promises with a call", table.size(), 41);
        for (Promise p : table) {
            Matcher section = Pattern.compile("## Promise " + p.number + ": " + p.call + "\n+(.*)\n").matcher(document);
            due.is("promise " + p.number + " is of " + p.call, section.find() ? 1 : 0, 1);
            String number = p.call.equals("marks") ? "100000000([1-6])\\b" : "(?<=[^.][.;] )-([1-6])(?!\\d)";
            Matcher told = Pattern.compile(number).matcher(section.group(1));
            List<Integer> order = new ArrayList<>();
            while (told.find()) {
                order.add(-Integer.parseInt(told.group(1)));
            }
            List<Integer> ours = new ArrayList<>();
            for (int refusal : p.order) {
                ours.add(refusal);
            }
            due.same("refusals of " + p.call, ours.toString(), order.toString());
        }
    }
}
