import java.util.ArrayList;
import java.util.List;
import java.util.function.Supplier;
import java.util.function.ToIntFunction;

/**
 * What is refused changes nothing: of two objects that were made alike, one takes the refused call and the other does
 * not, and then both answer all that can be asked, and all that follows, alike.
 */
final class Twins {
    private static final int NONE = ChairFront.NONE;

    private final Due due;
    private final String shore;
    private final Supplier<ChairFront> made;

    Twins(Due due, String shore, Supplier<ChairFront> made) {
        this.due = due;
        this.shore = shore;
        this.made = made;
    }

    void refused(String call, int want, ToIntFunction<ChairFront> refusal) {
        ChairFront one = made.get();
        ChairFront other = made.get();
        due.is(shore + ": " + call, refusal.applyAsInt(one), want);
        compare(shore + ", after " + call, one, other);
    }

    /** Two ways that must leave all as the same. */
    void alike(String when, ToIntFunction<ChairFront> way, ToIntFunction<ChairFront> otherWay) {
        ChairFront one = made.get();
        ChairFront other = made.get();
        way.applyAsInt(one);
        otherWay.applyAsInt(other);
        compare(shore + ", " + when, one, other);
    }

    /** Whether the twins tell an object that took a call from one that did not. */
    static boolean differs(ChairFront one, ChairFront other, ToIntFunction<ChairFront> change) {
        List<Integer> got = new ArrayList<>();
        List<Integer> want = new ArrayList<>();
        change.applyAsInt(one);
        ask(one, new ArrayList<>(), got);
        ask(other, new ArrayList<>(), want);
        return !got.equals(want);
    }

    private void compare(String when, ChairFront one, ChairFront other) {
        List<String> calls = new ArrayList<>();
        List<Integer> got = new ArrayList<>();
        List<Integer> want = new ArrayList<>();
        ask(one, calls, got);
        calls.clear();
        ask(other, calls, want);
        due.is(when + ": how many answers", got.size(), want.size());
        for (int i = 0; i < Math.min(got.size(), want.size()); i++) {
            due.is(when + ": " + calls.get(i), got.get(i), want.get(i));
        }
    }

    /** First what changes nothing, then what makes the rest be seen: price, stop, wind, tape, rules, hired prices. */
    private static void ask(ChairFront x, List<String> calls, List<Integer> answers) {
        Asked a = new Asked(x, calls, answers);
        int stretches = a.put("count(0)", x.count(0));
        int tickets = x.count(6);
        for (int what = 1; what < 10; what++) {
            a.put("count(" + what + ")", x.count(what));
        }
        for (int s = 0; s < stretches; s++) {
            a.stretch(s);
        }
        for (int t = 0; t < tickets; t++) {
            a.ticket(t);
        }
        for (int i = 0; i < 6; i++) {
            a.put("trace(" + i + ")", x.trace(i));
        }
        a.put("fault()", x.fault());
        for (int amount : new int[] {NONE, 100, 1000, 1000000}) {
            a.put("rent(" + amount + ")", x.rent(amount));
        }
        a.ruled();
        a.shifted(tickets, stretches);
        a.rained();
        a.taped();
        a.stretch(a.put("stretch(500, 3)", x.stretch(500, 3)));
    }

    private record Asked(ChairFront x, List<String> calls, List<Integer> answers) {
        int put(String call, int answer) {
            calls.add(call);
            answers.add(answer);
            return answer;
        }

        void stretch(int s) {
            for (int what = 0; what < 6; what++) {
                put("told(" + s + ", " + what + ")", x.told(s, what));
            }
            put("kind(" + s + ")", x.kind(s));
            // The first two steps of a walk over this stretch and the one ahead tell how many go.
            put("walk of " + s, x.walk(s > 0 ? 3 << s - 1 : 1, NONE));
        }

        void ticket(int t) {
            for (int what = 0; what < 4; what++) {
                put("ticket(" + t + ", " + what + ")", x.ticket(t, what));
            }
        }

        /** A hire of more than are free is refused by the wind or for want of chairs, so it tells the latest wind. */
        void ruled() {
            put("rule(0, 50)", x.rule(0, 50));
            put("rule(1, 0)", x.rule(1, 0));
            for (int stop : new int[] {0, 10, 29, 30, 59, 60, 61, 98, 99, 100}) {
                put("rule(1, " + stop + ")", x.rule(1, stop));
                put("hire(0, 100, 1)", x.hire(0, 100, 1));
            }
        }

        void shifted(int tickets, int stretches) {
            for (int t = 0; t < Math.min(tickets, 3); t++) {
                for (int s = stretches - 1; s >= Math.max(0, stretches - 5); s--) {
                    put("shift(" + t + ", " + s + ")", x.shift(t, s));
                }
            }
        }

        void rained() {
            for (int minutes : new int[] {1, 10, 30, 60}) {
                put("hour with rain " + minutes, x.hour(0, 0, minutes, 7));
                put("count(9)", x.count(9));
            }
            put("rule(1, 30)", x.rule(1, 30));
            put("hour with wind", x.hour(0, 31, 0, 0));
            put("count(9)", x.count(9));
            put("count(4)", x.count(4));
            put("mend(0)", x.mend(0));
        }

        /** The fed bytes end any line that the tape may hold half told. */
        void taped() {
            put("feed(32, 1)", x.feed(32, 1));
            put("feed(';', 1)", x.feed(';', 1));
            put("rules()", x.rules());
            put("fault()", x.fault());
            put("rent(1000)", x.rent(1000));
        }
    }
}
