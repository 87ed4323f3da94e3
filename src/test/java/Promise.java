import java.util.ArrayList;
import java.util.Arrays;
import java.util.List;
import java.util.TreeSet;

/** A call as its promise tells it: what each argument may be, and its refusals in the order in which they are told. */
final class Promise {
    static final int NOBODY = -1;
    static final int OTHER = -2;
    static final int STATE = -3;
    static final int BELOW = -4;
    static final int ROOM = -6;
    static final int TAKEN = 0;

    interface Rule {
        boolean fits(long[] args);
    }

    interface Answer {
        int to(long[] args);
    }

    private static final class Argument {
        /** What is tried of it. */
        final TreeSet<Long> tried = new TreeSet<>();
        long least = Long.MIN_VALUE;
        long greatest = Long.MAX_VALUE;
        int below = TAKEN;
        int above = TAKEN;
    }

    private static final class Also {
        final int refusal;
        final Rule rule;

        Also(int refusal, Rule rule) {
            this.refusal = refusal;
            this.rule = rule;
        }
    }

    final int number;
    final String call;
    final int[] order;
    private final List<Argument> arguments = new ArrayList<>();
    private final List<Also> more = new ArrayList<>();
    private Answer answer = null;

    Promise(int number, String call, int... order) {
        this.number = number;
        this.call = call;
        this.order = order;
    }

    /** A number: below the least and above the greatest it is refused as BELOW and as ROOM. */
    Promise from(long least, long greatest) {
        return within(least, greatest, BELOW, ROOM);
    }

    /** One of those from 0 on: any other is refused so. */
    Promise oneOf(long many, int refusal) {
        return within(0, many - 1, refusal, refusal);
    }

    private Promise within(long least, long greatest, int below, int above) {
        Argument a = new Argument();
        a.least = least;
        a.greatest = greatest;
        a.below = below;
        a.above = above;
        long[] tried = {Integer.MIN_VALUE, least - 1, least, greatest, greatest + 1, Integer.MAX_VALUE};
        for (long v : tried) {
            a.tried.add(v);
        }
        arguments.add(a);
        return this;
    }

    /** An argument that is never refused. */
    Promise any(long... values) {
        Argument a = new Argument();
        for (long v : values) {
            a.tried.add(v);
        }
        arguments.add(a);
        return this;
    }

    /** Looked at only if no refusal that is told ahead of it fits, so that it may use what those let through. */
    Promise also(int refusal, Rule rule) {
        more.add(new Also(refusal, rule));
        return this;
    }

    Promise answers(Answer due) {
        answer = due;
        return this;
    }

    boolean hasAnswer() {
        return answer != null;
    }

    int answerTo(long[] args) {
        return answer.to(args);
    }

    /** The first refusal that fits, or TAKEN. */
    int due(long[] args) {
        for (int refusal : order) {
            for (int i = 0; i < args.length; i++) {
                Argument a = arguments.get(i);
                if (a.below == refusal && args[i] < a.least || a.above == refusal && args[i] > a.greatest) {
                    return refusal;
                }
            }
            for (Also also : more) {
                if (also.refusal == refusal && also.rule.fits(args)) {
                    return refusal;
                }
            }
        }
        return TAKEN;
    }

    /** What the call answers where it is refused so: only marks() has numbers of its own. */
    int told(int refusal) {
        return call.equals("marks") ? 1000000000 - refusal : refusal;
    }

    /** Every value that is tried of an argument with every one of the others. */
    List<long[]> together() {
        List<long[]> all = new ArrayList<>();
        all.add(new long[0]);
        for (Argument a : arguments) {
            List<long[]> longer = new ArrayList<>();
            for (long[] begun : all) {
                for (long v : a.tried) {
                    long[] next = Arrays.copyOf(begun, begun.length + 1);
                    next[begun.length] = v;
                    longer.add(next);
                }
            }
            all = longer;
        }
        return all;
    }

    /** The least and the greatest of an argument that has them. */
    List<Long> edges(int argument) {
        Argument a = arguments.get(argument);
        return a.below == TAKEN ? List.of() : List.of(a.least, a.greatest);
    }

    int argumentCount() {
        return arguments.size();
    }
}
