import java.util.function.ToIntFunction;

/** Terms: in which order refusals are answered, and that what is refused changes nothing. */
final class RefusedTest {
    private static final int NONE = ChairFront.NONE, BAD = ChairFront.BAD, STATE = ChairFront.STATE, FULL = ChairFront.FULL,
        NOT = ChairFront.KIND;
    private static final int LEAST = Integer.MIN_VALUE, MOST = Integer.MAX_VALUE;
    private static final Due DUE = new Due();
    private static final Twins BUSY = new Twins(DUE, "a busy shore", RefusedTest::busy);
    private static final Twins CROWDED = new Twins(DUE, "a full shore", RefusedTest::crowded);
    private static final Twins STORMY = new Twins(DUE, "a stormy shore", RefusedTest::stormy);
    private static final Twins EMPTY = new Twins(DUE, "an empty shore", () -> new ChairFront(0));

    public static void main(String[] args) {
        twinsSeeAll();
        badAheadOfState();
        badAheadOfFull();
        stateAheadOfFull();
        badAheadOfKind();
        stretchRefused();
        carryRefused();
        toldRefused();
        ruleRefused();
        mendRefused();
        hireRefused();
        shiftRefused();
        ticketRefused();
        hourRefused();
        feedRefused();
        faultyTexts();
        rentRefused();
        unpaidRefused();
        walkRefused();
        kindRefused();
        asRefused();
        askRefused();
        traceBeyond();
        countRefused();
        nothingOnAnEmptyShore();
        DUE.end();
    }

    /**
     * 0 a crowd of tickets 0 and 1 (zone 0), 1 with ticket 2 (zone 0), 2 all free (zone 1), 3 taken by the tide (zone 2);
     * tickets 3 and 4 ended, one chair is broken, half a line is fed, a fault and a trace are left.
     */
    private static ChairFront busy() {
        ChairFront x = new ChairFront(1000);
        int[][] stretches = {{100, 0, 150}, {200, 0, 40}, {300, 1, 30}, {50, 2, 20}};
        for (int i = 0; i < stretches.length; i++) {
            x.stretch(stretches[i][0], stretches[i][1]);
            x.carry(NONE, i, stretches[i][2]);
        }
        Due.rules(x, "hold zone;rain 10 part 30;rain 1 part 5;rent 100 part 10;rent 900 part 20;");
        x.hire(0, 100, 12);
        x.rule(0, 7);
        x.hire(0, 50, 6);
        x.hire(1, 5, 9);
        x.hire(3, 2, 9);
        x.hire(2, 3, 1);
        x.unpaid(0, 20, 3);
        x.unpaid(1, 30, 7);
        x.hour(60, 30, 15, 10);
        x.rule(1, 40);
        Due.rules(x, "rain 0 part 5;");
        x.ask(0, 0);
        Due.feed(x, "hold any");
        return x;
    }

    /** As busy, with chairs free for ticket 0 in its zone. */
    private static ChairFront roomy() {
        ChairFront x = busy();
        x.carry(NONE, 1, 100);
        return x;
    }

    /** Ten stretches, thirty tickets on the first, a tape of 298 bytes. */
    private static ChairFront crowded() {
        ChairFront x = new ChairFront(1000);
        for (int i = 0; i < 10; i++) {
            x.stretch(10 + i, i % 4);
            x.carry(NONE, i, 60 - i);
        }
        for (int i = 0; i < 30; i++) {
            x.hire(0, 1, 2 + i % 11);
        }
        Due.feed(x, "hold any;" + " ".repeat(289));
        return x;
    }

    /** The wind of the latest hour is above STOP; none is free on stretch 1. */
    private static ChairFront stormy() {
        ChairFront x = new ChairFront(100);
        x.stretch(10, 0);
        x.stretch(20, 1);
        x.carry(NONE, 0, 50);
        x.hour(0, 61, 0, 3);
        return x;
    }

    /** Of the twins themselves: that they see what differs, so that they would see a refused call's change. */
    private static void twinsSeeAll() {
        DUE.says("the test itself");
        sees("stretch", x -> x.stretch(0, 0));
        sees("carry", x -> x.carry(NONE, 2, 1));
        sees("price", x -> x.rule(0, 8));
        sees("stop", x -> x.rule(1, 41));
        sees("mend", x -> x.mend(1));
        sees("hire", x -> x.hire(1, 1, 1));
        sees("shift", x -> x.shift(0, 1));
        sees("hour", x -> x.hour(0, 30, 0, 0));
        sees("feed", x -> x.feed(' ', 1));
        sees("rules", x -> x.rules());
        sees("unpaid", x -> x.unpaid(0, 21, 3));
        sees("those that go", x -> x.unpaid(0, 20, 4));
        sees("ask", x -> x.ask(1, 0));
        DUE.is("the twins see nothing where nothing is", Twins.differs(roomy(), roomy(), x -> 0) ? 1 : 0, 0);
    }

    private static void sees(String what, ToIntFunction<ChairFront> change) {
        DUE.is("the twins see " + what, Twins.differs(roomy(), roomy(), change) ? 1 : 0, 1);
    }

    private static void badAheadOfState() {
        DUE.says("Refusals are answers, the first of these that fits: BAD, STATE");
        BUSY.refused("carry of too many from no stretch", BAD, x -> x.carry(4, 0, 9000));
        BUSY.refused("carry of too many to no stretch", BAD, x -> x.carry(0, 4, 9000));
        BUSY.refused("carry of too many to the same", BAD, x -> x.carry(1, 1, 9000));
        BUSY.refused("carry of too many from the stack to the stack", BAD, x -> x.carry(NONE, NONE, 9000));
        BUSY.refused("carry of 9001", BAD, x -> x.carry(NONE, 0, 9001));
        BUSY.refused("mend of 9001", BAD, x -> x.mend(9001));
        STORMY.refused("hire on no stretch in a storm", BAD, x -> x.hire(2, 1, 1));
        STORMY.refused("hire of no chairs in a storm", BAD, x -> x.hire(0, 0, 1));
        STORMY.refused("hire of 101 chairs in a storm", BAD, x -> x.hire(0, 101, 1));
        STORMY.refused("hire for no hours in a storm", BAD, x -> x.hire(0, 1, 0));
        STORMY.refused("hire for 13 hours in a storm", BAD, x -> x.hire(0, 1, 13));
        BUSY.refused("shift of an ended ticket out of its zone", BAD, x -> x.shift(4, 0));
        CROWDED.refused("shift to its own stretch under 'place'", BAD, x -> x.shift(0, 0));
        CROWDED.refused("shift to no stretch under 'place'", BAD, x -> x.shift(0, 10));
    }

    private static void badAheadOfFull() {
        DUE.says("Refusals are answers, the first of these that fits: BAD, STATE, FULL");
        CROWDED.refused("an 11th stretch too high", BAD, x -> x.stretch(501, 0));
        CROWDED.refused("an 11th stretch too low", BAD, x -> x.stretch(-1, 0));
        CROWDED.refused("an 11th stretch of zone 4", BAD, x -> x.stretch(0, 4));
        CROWDED.refused("an 11th stretch of zone -1", BAD, x -> x.stretch(0, -1));
        CROWDED.refused("a 31st ticket on no stretch", BAD, x -> x.hire(10, 1, 1));
        CROWDED.refused("a 31st ticket of 101 chairs", BAD, x -> x.hire(0, 101, 1));
        CROWDED.refused("a 31st ticket for 13 hours", BAD, x -> x.hire(0, 1, 13));
        CROWDED.refused("nine bytes where two have room", BAD, x -> x.feed(0, 9));
        BUSY.refused("an ended ticket to where too few are free", BAD, x -> x.shift(3, 0));
    }

    private static void stateAheadOfFull() {
        DUE.says("Refusals are answers, the first of these that fits: STATE, FULL");
        STORMY.refused("hire in a storm where none is free", STATE, x -> x.hire(1, 1, 1));
        BUSY.refused("100 chairs out of their zone, where 30 are free", STATE, x -> x.shift(0, 2));
        ChairFront x = crowded();
        DUE.is("30 run after an hour", x.hour(0, 60, 0, 0), 30);
        DUE.is("a 31st", x.hire(0, 1, 1), FULL);
        x.rule(1, 59);
        DUE.is("a 31st, and STOP is below the latest wind now", x.hire(0, 1, 1), STATE);
    }

    private static void badAheadOfKind() {
        DUE.says("Refusals are answers, the first of these that fits: BAD, .. then KIND");
        BUSY.refused("no stretch as a bare one", BAD, x -> x.as(4, 3));
        BUSY.refused("a stretch as of no kind", BAD, x -> x.as(2, 4));
        BUSY.refused("a stretch as of kind -1", BAD, x -> x.as(2, -1));
    }

    private static void stretchRefused() {
        DUE.says("Promise 2: BAD; FULL: 10");
        BUSY.refused("stretch(-1, 0)", BAD, x -> x.stretch(-1, 0));
        BUSY.refused("stretch(501, 0)", BAD, x -> x.stretch(501, 0));
        BUSY.refused("stretch(0, -1)", BAD, x -> x.stretch(0, -1));
        BUSY.refused("stretch(0, 4)", BAD, x -> x.stretch(0, 4));
        CROWDED.refused("the 11th", FULL, x -> x.stretch(0, 0));
    }

    private static void carryRefused() {
        DUE.says("Promise 3: BAD (from and to the same, too); STATE: there are not so many");
        BUSY.refused("from -1", BAD, x -> x.carry(-1, 0, 1));
        BUSY.refused("from 4", BAD, x -> x.carry(4, 0, 1));
        BUSY.refused("to -1", BAD, x -> x.carry(NONE, -1, 1));
        BUSY.refused("to 4", BAD, x -> x.carry(NONE, 4, 1));
        BUSY.refused("to the same", BAD, x -> x.carry(2, 2, 1));
        BUSY.refused("none to the same", BAD, x -> x.carry(2, 2, 0));
        BUSY.refused("the stack to itself", BAD, x -> x.carry(NONE, NONE, 1));
        BUSY.refused("-1 chairs", BAD, x -> x.carry(2, 1, -1));
        BUSY.refused("9001 chairs", BAD, x -> x.carry(2, 1, 9001));
        BUSY.refused("9000 of the stack's 760", STATE, x -> x.carry(NONE, 1, 9000));
        BUSY.refused("761 of the stack's 760", STATE, x -> x.carry(NONE, 1, 761));
        BUSY.refused("31 of 30 free ones", STATE, x -> x.carry(2, 1, 31));
        BUSY.refused("one of a stretch that is all hired", STATE, x -> x.carry(0, NONE, 1));
        BUSY.refused("one of a bare stretch", STATE, x -> x.carry(3, NONE, 1));
    }

    private static void toldRefused() {
        DUE.says("Promise 4: BAD");
        BUSY.refused("told(4, 0)", BAD, x -> x.told(4, 0));
        BUSY.refused("told(-1, 0)", BAD, x -> x.told(-1, 0));
        BUSY.refused("told(0, 6)", BAD, x -> x.told(0, 6));
        BUSY.refused("told(0, -1)", BAD, x -> x.told(0, -1));
    }

    private static void ruleRefused() {
        DUE.says("Promise 5: BAD");
        BUSY.refused("price 0", BAD, x -> x.rule(0, 0));
        BUSY.refused("price 101", BAD, x -> x.rule(0, 101));
        BUSY.refused("stop -1", BAD, x -> x.rule(1, -1));
        BUSY.refused("stop 101", BAD, x -> x.rule(1, 101));
        BUSY.refused("rule(-1, 50)", BAD, x -> x.rule(-1, 50));
        BUSY.refused("rule(2, 50)", BAD, x -> x.rule(2, 50));
    }

    private static void mendRefused() {
        DUE.says("Promise 6: BAD; STATE: there are not so many");
        BUSY.refused("mend(-1)", BAD, x -> x.mend(-1));
        BUSY.refused("mend(9001)", BAD, x -> x.mend(9001));
        BUSY.refused("mend(2) of one", STATE, x -> x.mend(2));
        BUSY.refused("mend(9000) of one", STATE, x -> x.mend(9000));
    }

    private static void hireRefused() {
        DUE.says("Promise 7: BAD: STRETCH, chairs (1 to 100), hours (1 to 12); STATE; FULL: 30 run, or not so many FREE");
        BUSY.refused("stretch 4", BAD, x -> x.hire(4, 1, 1));
        BUSY.refused("stretch -1", BAD, x -> x.hire(-1, 1, 1));
        BUSY.refused("no chairs", BAD, x -> x.hire(2, 0, 1));
        BUSY.refused("101 chairs", BAD, x -> x.hire(2, 101, 1));
        BUSY.refused("no hours", BAD, x -> x.hire(2, 1, 0));
        BUSY.refused("13 hours", BAD, x -> x.hire(2, 1, 13));
        BUSY.refused("31 of 30 free ones", FULL, x -> x.hire(2, 31, 1));
        BUSY.refused("one where all are hired", FULL, x -> x.hire(0, 1, 1));
        BUSY.refused("one of a bare stretch", FULL, x -> x.hire(3, 1, 1));
        CROWDED.refused("the 31st", FULL, x -> x.hire(1, 1, 1));
        STORMY.refused("in a storm", STATE, x -> x.hire(0, 1, 1));
    }

    private static void shiftRefused() {
        DUE.says("Promise 8: BAD: TICKET (it ended, too), STRETCH (its own one, too); STATE: it does not hold there; FULL");
        BUSY.refused("ticket 5", BAD, x -> x.shift(5, 1));
        BUSY.refused("ticket -1", BAD, x -> x.shift(-1, 1));
        BUSY.refused("a ticket that the tide ended", BAD, x -> x.shift(3, 2));
        BUSY.refused("a ticket that ran out", BAD, x -> x.shift(4, 1));
        BUSY.refused("stretch 4", BAD, x -> x.shift(0, 4));
        BUSY.refused("stretch -1", BAD, x -> x.shift(0, -1));
        BUSY.refused("the stack", BAD, x -> x.shift(0, NONE));
        BUSY.refused("its own stretch", BAD, x -> x.shift(2, 1));
        BUSY.refused("out of its zone", STATE, x -> x.shift(2, 2));
        BUSY.refused("100 to 35 free ones", FULL, x -> x.shift(0, 1));
        BUSY.refused("49 to 35 free ones", FULL, x -> x.shift(1, 1));
        BUSY.refused("5 to none", FULL, x -> x.shift(2, 0));
        CROWDED.refused("under 'place', as at first", STATE, x -> x.shift(0, 1));
    }

    private static void ticketRefused() {
        DUE.says("Promise 9: BAD (it ended, too)");
        BUSY.refused("ticket(-1, 0)", BAD, x -> x.ticket(-1, 0));
        BUSY.refused("ticket(5, 0)", BAD, x -> x.ticket(5, 0));
        BUSY.refused("ticket(3, 0), which the tide ended", BAD, x -> x.ticket(3, 0));
        BUSY.refused("ticket(4, 3), which ran out", BAD, x -> x.ticket(4, 3));
        BUSY.refused("ticket(0, -1)", BAD, x -> x.ticket(0, -1));
        BUSY.refused("ticket(0, 4)", BAD, x -> x.ticket(0, 4));
    }

    private static void hourRefused() {
        DUE.says("Promise 10: BAD: level (0 to 1000), wind (0 to 100), rain, sun");
        BUSY.refused("level -1", BAD, x -> x.hour(-1, 99, 60, 10));
        BUSY.refused("level 1001", BAD, x -> x.hour(1001, 99, 60, 10));
        BUSY.refused("wind -1", BAD, x -> x.hour(500, -1, 60, 10));
        BUSY.refused("wind 101", BAD, x -> x.hour(500, 101, 60, 10));
        BUSY.refused("rain -1", BAD, x -> x.hour(500, 99, -1, 10));
        BUSY.refused("rain 61", BAD, x -> x.hour(500, 99, 61, 10));
        BUSY.refused("sun -1", BAD, x -> x.hour(500, 99, 60, -1));
        BUSY.refused("sun 11", BAD, x -> x.hour(500, 99, 60, 11));
    }

    private static void feedRefused() {
        DUE.says("Promise 11: BAD: n; FULL: none comes");
        BUSY.refused("n = 0", BAD, x -> x.feed(';', 0));
        BUSY.refused("n = -1", BAD, x -> x.feed(';', -1));
        BUSY.refused("n = 9", BAD, x -> x.feed(';', 9));
        CROWDED.refused("three bytes where two have room", FULL, x -> x.feed(0x313131, 3));
        CROWDED.refused("eight bytes where two have room", FULL, x -> x.feed(0x3131313131313131L, 8));
    }

    private static void faultyTexts() {
        DUE.says("Promise 12: all but the tape, and what fault() tells, stays");
        Twins read = new Twins(DUE, "a busy shore", () -> {
            ChairFront x = busy();
            x.rules();
            return x;
        });
        read.alike("after a long faulty text and a short one",
            x -> Due.rules(x, "hold place;rain 2 part 99;rent 7 part 70;hold any;rain 61"), x -> Due.rules(x, "rain 0"));
        read.alike("after a text whose end is wanting and one sign",
            x -> Due.rules(x, "rent 7 part 70;hold any;rain 5 part 5"), x -> Due.rules(x, "?"));
    }

    private static void rentRefused() {
        DUE.says("Promise 14: BAD");
        BUSY.refused("rent(-1)", BAD, x -> x.rent(-1));
        BUSY.refused("rent(1000001)", BAD, x -> x.rent(1000001));
    }

    private static void unpaidRefused() {
        DUE.says("Promise 15: BAD");
        BUSY.refused("stretch 4", BAD, x -> x.unpaid(4, 9, 9));
        BUSY.refused("stretch -1", BAD, x -> x.unpaid(-1, 9, 9));
        BUSY.refused("n = -1", BAD, x -> x.unpaid(1, -1, 9));
        BUSY.refused("n = 501", BAD, x -> x.unpaid(1, 501, 9));
        BUSY.refused("go = -1", BAD, x -> x.unpaid(1, 9, -1));
        BUSY.refused("go = 501", BAD, x -> x.unpaid(1, 9, 501));
    }

    private static void walkRefused() {
        DUE.says("Promise 16: BAD: a STRETCH of the set is not there, or it has none, or more than 7");
        BUSY.refused("the set has none", BAD, x -> x.walk(0, NONE));
        BUSY.refused("stretch 4 is not there", BAD, x -> x.walk(0b11111, NONE));
        BUSY.refused("stretch 31 is not there", BAD, x -> x.walk(LEAST, 0));
        CROWDED.refused("eight", BAD, x -> x.walk(0b11111111, 0));
    }

    private static void kindRefused() {
        DUE.says("Promise 17: BAD");
        BUSY.refused("kind(-1)", BAD, x -> x.kind(-1));
        BUSY.refused("kind(4)", BAD, x -> x.kind(4));
    }

    private static void asRefused() {
        DUE.says("Promise 18: BAD; KIND: it is not that, too");
        BUSY.refused("as(-1, 0)", BAD, x -> x.as(-1, 0));
        BUSY.refused("as(4, 0)", BAD, x -> x.as(4, 0));
        BUSY.refused("as(0, -1)", BAD, x -> x.as(0, -1));
        BUSY.refused("as(0, 4)", BAD, x -> x.as(0, 4));
        BUSY.refused("a crowd as a bare one", NOT, x -> x.as(0, 3));
        BUSY.refused("a bare one as a sold one", NOT, x -> x.as(3, 1));
    }

    private static void askRefused() {
        DUE.says("Promise 19: where that is refused THE TRACE stays");
        BUSY.refused("ask(-1, 0)", BAD, x -> x.ask(-1, 0));
        BUSY.refused("ask(4, 1)", BAD, x -> x.ask(4, 1));
        BUSY.refused("ask(0, -1)", BAD, x -> x.ask(0, -1));
        BUSY.refused("ask(1, 2)", BAD, x -> x.ask(1, 2));
    }

    private static void traceBeyond() {
        DUE.says("Promise 20: NONE");
        BUSY.refused("trace(-1)", NONE, x -> x.trace(-1));
        BUSY.refused("trace(5)", NONE, x -> x.trace(5));
    }

    private static void countRefused() {
        DUE.says("Promise 21: BAD");
        BUSY.refused("count(-1)", BAD, x -> x.count(-1));
        BUSY.refused("count(10)", BAD, x -> x.count(10));
    }

    private static void nothingOnAnEmptyShore() {
        DUE.says("BAD (.. there is no such thing)");
        for (int s : new int[] {0, -1, 9, 10, LEAST, MOST}) {
            EMPTY.refused("carry(" + s + ", NONE, 0)", BAD, x -> x.carry(s, NONE, 0));
            EMPTY.refused("carry(NONE, " + s + ", 0)", BAD, x -> x.carry(NONE, s, 0));
            EMPTY.refused("told(" + s + ", 0)", BAD, x -> x.told(s, 0));
            EMPTY.refused("hire(" + s + ", 1, 1)", BAD, x -> x.hire(s, 1, 1));
            EMPTY.refused("shift(0, " + s + ")", BAD, x -> x.shift(0, s));
            EMPTY.refused("shift(" + s + ", 0)", BAD, x -> x.shift(s, 0));
            EMPTY.refused("ticket(" + s + ", 0)", BAD, x -> x.ticket(s, 0));
            EMPTY.refused("unpaid(" + s + ", 0, 0)", BAD, x -> x.unpaid(s, 0, 0));
            EMPTY.refused("kind(" + s + ")", BAD, x -> x.kind(s));
            EMPTY.refused("as(" + s + ", 0)", BAD, x -> x.as(s, 0));
            EMPTY.refused("ask(" + s + ", 0)", BAD, x -> x.ask(s, 0));
            EMPTY.refused("walk(" + (s == 0 ? 1 : s) + ", NONE)", BAD, x -> x.walk(s == 0 ? 1 : s, NONE));
        }
        EMPTY.refused("mend(1)", STATE, x -> x.mend(1));
        EMPTY.refused("trace(0)", NONE, x -> x.trace(0));
    }
}
