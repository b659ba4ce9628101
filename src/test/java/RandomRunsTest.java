import java.util.Random;

/** Runs of up to 512 calls by a fixed seed: ChairFront answers as the second telling of the document does. */
final class RandomRunsTest {
    private static final int NONE = ChairFront.NONE;
    private static final int RUNS = 250;
    private static final String[] WORDS = {"hold", "zone", "any", "place", "rain", "part", "rent", ";", ";", " ", "\n", "0", "1",
        "60", "61", "100", "101", "99999", "100000", "x", "holds", "A", "\t"};

    private final Due due = new Due();
    private final Random random;
    private final ChairFront x;
    private final ModelFront m;
    private final int run;
    private int calls;

    private RandomRunsTest(int run) {
        this.run = run;
        random = new Random(run);
        int chairs = pick(0, 5, 50, 300, 1000, 3000);
        x = new ChairFront(chairs);
        m = new ModelFront(chairs);
    }

    public static void main(String[] args) {
        for (int run = 0; run < RUNS; run++) {
            RandomRunsTest r = new RandomRunsTest(run);
            r.begin();
            while (r.calls < 500) {
                r.step();
            }
            if (r.due.wrong() > 0) {
                r.due.end();
            }
        }
        System.out.println("RandomRunsTest: " + RUNS + " runs, none wrong");
    }

    private void is(String call, int got, int want) {
        calls++;
        due.is("run " + run + ", call " + calls + ": " + call, got, want);
    }

    private int pick(int... of) {
        return of[random.nextInt(of.length)];
    }

    private int from(int least, int most) {
        return least + random.nextInt(most - least + 1);
    }

    /** Mostly a stretch that is there, now and then one that is not. */
    private int stretch() {
        return random.nextInt(12) == 0 ? pick(-1, 10, NONE, from(0, 9)) : from(0, Math.max(0, m.count(0) - 1));
    }

    private int ticket() {
        int ever = m.count(6);
        return random.nextInt(15) == 0 ? pick(-1, ever, 0) : from(Math.max(0, ever - 12), Math.max(0, ever - 1));
    }

    private void begin() {
        int n = from(1, 10);
        for (int i = 0; i < n; i++) {
            callStretch(pick(0, 5, 30, 100, from(0, 500)), from(0, 3));
            callCarry(NONE, i, from(0, Math.min(9000, m.count(1) / 2)));
        }
    }

    private void step() {
        int what = random.nextInt(100);
        if (what < 2) callStretch(from(-1, 501), from(-1, 4));
        else if (what < 12) callCarry(random.nextInt(3) == 0 ? stretch() : NONE, random.nextInt(4) == 0 ? NONE : stretch(), pick(-1, 0, 1, 2, 10, 100, 400, 9001));
        else if (what < 15) callRule();
        else if (what < 18) callMend(pick(-1, 0, 1, 1, 2, 5, 9001));
        else if (what < 40) callHire(stretch(), pick(0, 1, 2, 3, 5, 10, 33, 99, 100, 101), from(0, 13));
        else if (what < 50) callShift(ticket(), stretch());
        else if (what < 60) callHour();
        else if (what < 68) callRules();
        else if (what < 72) callRent(pick(NONE, NONE, -1, 0, 1, from(0, 200), from(0, 100000), 1000000, 1000001));
        else if (what < 78) callUnpaid(stretch(), pick(-1, 0, 0, 1, 20, 500, from(0, 501)), pick(-1, 0, 1, 5, from(0, 501)));
        else if (what < 82) callWalk(random.nextInt(1 << Math.min(10, m.count(0))) ^ (random.nextInt(20) == 0 ? 1 << random.nextInt(32) : 0));
        else if (what < 88) callAsk(stretch());
        else look();
    }

    private void callStretch(int height, int zone) {
        is("stretch(" + height + ", " + zone + ")", x.stretch(height, zone), m.stretch(height, zone));
    }

    private void callCarry(int a, int b, int n) {
        is("carry(" + a + ", " + b + ", " + n + ")", x.carry(a, b, n), m.carry(a, b, n));
    }

    private void callRule() {
        int what = from(-1, 2), v = pick(-1, 0, 1, 30, 60, 100, 101, from(0, 100));
        is("rule(" + what + ", " + v + ")", x.rule(what, v), m.rule(what, v));
    }

    private void callMend(int n) {
        is("mend(" + n + ")", x.mend(n), m.mend(n));
    }

    private void callHire(int s, int n, int h) {
        is("hire(" + s + ", " + n + ", " + h + ")", x.hire(s, n, h), m.hire(s, n, h));
    }

    private void callShift(int t, int s) {
        is("shift(" + t + ", " + s + ")", x.shift(t, s), m.shift(t, s));
    }

    private void callHour() {
        int level = random.nextInt(8) == 0 ? pick(-1, 5, 30, 100, 1001) : 0;
        int wind = pick(0, 10, 30, from(0, 60), random.nextInt(4) == 0 ? from(-1, 101) : 5);
        int rain = pick(0, 0, from(-1, 61), 30), sun = pick(0, 1, 5, 10, 10, 10, from(-1, 11));
        is("hour(" + level + ", " + wind + ", " + rain + ", " + sun + ")", x.hour(level, wind, rain, sun), m.hour(level, wind, rain, sun));
    }

    private String text() {
        StringBuilder b = new StringBuilder();
        int lines = from(0, 14), rent = 0;
        for (int i = 0; i < lines; i++) {
            int kind = from(0, 2);
            rent += from(random.nextInt(12) == 0 ? 0 : 1, 900);
            if (kind == 0) b.append("hold ").append(new String[] {"zone", "any", "place"}[from(0, 2)]).append(";");
            else if (kind == 1) b.append("rain ").append(from(1, 60)).append(" part ").append(from(0, 100)).append(";");
            else b.append("rent ").append(rent).append(" part").append(from(0, 100)).append("\n;");
        }
        if (random.nextInt(2) == 0) {
            b.insert(from(0, b.length()), WORDS[random.nextInt(WORDS.length)]);
        }
        for (int i = random.nextInt(6) == 0 ? from(1, 6) : 0; i > 0; i--) {
            b.append(WORDS[random.nextInt(WORDS.length)]);
        }
        return b.toString();
    }

    private void callRules() {
        String text = text();
        for (int at = 0, n; at < text.length(); at += n) {
            n = Math.min(from(4, 8), text.length() - at);
            long w = random.nextLong();
            for (int i = 0; i < n; i++) {
                w = w << 8 | text.charAt(at + i);
            }
            is("feed(" + w + ", " + n + ")", x.feed(w, n), m.feed(w, n));
        }
        int wrong = pick(-1, 0, 9, 3);
        if (wrong != 3) {
            is("feed(5, " + wrong + ")", x.feed(5, wrong), m.feed(5, wrong));
        }
        is("rules() of '" + text + "'", x.rules(), m.rules());
        is("fault()", x.fault(), m.fault());
    }

    private void callRent(int amount) {
        is("rent(" + amount + ")", x.rent(amount), m.rent(amount));
    }

    private void callUnpaid(int s, int n, int go) {
        is("unpaid(" + s + ", " + n + ", " + go + ")", x.unpaid(s, n, go), m.unpaid(s, n, go));
    }

    private void callWalk(int set) {
        for (int i : new int[] {NONE, -1, 0, 1, 2, 3, 4, 5, 6, 7}) {
            is("walk(" + set + ", " + i + ")", x.walk(set, i), m.walk(set, i));
        }
    }

    private void callAsk(int s) {
        is("kind(" + s + ")", x.kind(s), m.kind(s));
        int kind = from(-1, 4), what = pick(-1, 0, 0, 1, 1, 2);
        is("as(" + s + ", " + kind + ")", x.as(s, kind), m.as(s, kind));
        is("ask(" + s + ", " + what + ")", x.ask(s, what), m.ask(s, what));
        for (int i = -1; i < 6; i++) {
            is("trace(" + i + ")", x.trace(i), m.trace(i));
        }
    }

    private void look() {
        int s = stretch(), t = ticket();
        for (int what = -1; what < 7; what++) {
            is("told(" + s + ", " + what + ")", x.told(s, what), m.told(s, what));
        }
        for (int what = -1; what < 5; what++) {
            is("ticket(" + t + ", " + what + ")", x.ticket(t, what), m.ticket(t, what));
        }
        for (int what = -1; what < 11; what++) {
            is("count(" + what + ")", x.count(what), m.count(what));
        }
    }
}
