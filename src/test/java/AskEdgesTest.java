/** Each sentence of promises 17 to 21, and of part 4 of the terms, that names a boundary. */
final class AskEdgesTest {
    private static final int NONE = ChairFront.NONE, BAD = ChairFront.BAD, NOT = ChairFront.KIND;
    private static final int LEAST = Integer.MIN_VALUE, MOST = Integer.MAX_VALUE;
    private static final Due DUE = new Due();

    public static void main(String[] args) {
        kindOfAStretch();
        bareOrStanding();
        soldOrFree();
        crowdOrSold();
        unpaidMakesNoOtherACrowd();
        kindsAsTheyChange();
        asOfAStretch();
        asOfAKind();
        asAnswersHeight();
        asIsNotThat();
        askOfAStretch();
        askOfWhat();
        worthLent();
        worthOfSold();
        worthOfCrowd();
        worthOfBare();
        markLent();
        markOfSold();
        markOfCrowd();
        markOfBare();
        traceOfANewOne();
        traceIsEmptyAhead();
        traceStaysWhereRefused();
        traceNumbers();
        traceOfNoOtherCall();
        countOfWhat();
        countOfEach();
        lastOfTheCalls();
        DUE.end();
    }

    /** A stretch of zone 3 with so many chairs, of which so many are hired, and so many unpaid. */
    private static ChairFront one(int height, int standing, int hired, int unpaid) {
        ChairFront x = new ChairFront(9000);
        x.stretch(height, 3);
        x.carry(NONE, 0, standing);
        for (int left = hired; left > 0; left -= 100) {
            x.hire(0, Math.min(100, left), 12);
        }
        x.unpaid(0, unpaid, 0);
        return x;
    }

    private static void asked(ChairFront x, int what, int want, int... trace) {
        DUE.is("ask(0, " + what + ")", x.ask(0, what), want);
        DUE.trace("ask(0, " + what + ")", x, trace);
    }

    private static void kindOfAStretch() {
        DUE.says("Promise 17: The KIND of a STRETCH; BAD");
        ChairFront x = new ChairFront(5);
        DUE.is("before one", x.kind(0), BAD);
        x.stretch(5, 0);
        x.stretch(5, 0);
        for (int s : new int[] {-1, 2, 9, 10, NONE, LEAST, MOST}) {
            DUE.is("kind(" + s + ")", x.kind(s), BAD);
        }
        DUE.is("the first", x.kind(0), 3);
        DUE.is("the last", x.kind(1), 3);
    }

    private static void bareOrStanding() {
        DUE.says("3 BARE, a STRETCH: none is STANDING");
        DUE.is("none", one(5, 0, 0, 0).kind(0), 3);
        DUE.is("one, free", one(5, 1, 0, 0).kind(0), 0);
        DUE.is("one, hired", one(5, 1, 1, 0).kind(0), 1);
    }

    private static void soldOrFree() {
        DUE.says("1 SOLD, a STRETCH: chairs are STANDING, none is FREE");
        DUE.is("one is free", one(5, 10, 9, 0).kind(0), 0);
        DUE.is("none is free", one(5, 10, 10, 0).kind(0), 1);
        DUE.is("3000 and none is free", one(5, 3000, 3000, 0).kind(0), 1);
        DUE.is("9000 and all are free", one(5, 9000, 0, 0).kind(0), 0);
    }

    private static void crowdOrSold() {
        DUE.says("2 CROWD, a SOLD one: UNPAID is 1 or more");
        DUE.is("0", one(5, 10, 10, 0).kind(0), 1);
        DUE.is("1", one(5, 10, 10, 1).kind(0), 2);
        DUE.is("500", one(5, 10, 10, 500).kind(0), 2);
    }

    private static void unpaidMakesNoOtherACrowd() {
        DUE.says("It is told as the first that fits of CROWD, SOLD, BARE, STRETCH");
        DUE.is("one is free", one(5, 10, 9, 500).kind(0), 0);
        DUE.is("none stands", one(5, 0, 0, 500).kind(0), 3);
    }

    private static void kindsAsTheyChange() {
        DUE.says("4 KINDS of STRETCHES (as they are now)");
        ChairFront x = one(5, 1, 0, 1);
        DUE.is("free", x.kind(0), 0);
        x.hire(0, 1, 1);
        DUE.is("hired", x.kind(0), 2);
        x.unpaid(0, 0, 500);
        DUE.is("all have paid", x.kind(0), 1);
        x.carry(NONE, 0, 1);
        DUE.is("one more", x.kind(0), 0);
        x.carry(0, NONE, 1);
        DUE.is("one less", x.kind(0), 1);
        x.hour(0, 0, 0, 0);
        DUE.is("the ticket ended", x.kind(0), 0);
        x.hire(0, 1, 12);
        DUE.is("hired again", x.kind(0), 1);
        x.hour(5, 0, 0, 0);
        DUE.is("the tide took it", x.kind(0), 3);
    }

    private static void asOfAStretch() {
        DUE.says("Promise 18: A STRETCH is taken as one of a KIND; BAD");
        ChairFront x = new ChairFront(5);
        DUE.is("before one", x.as(0, 0), BAD);
        x.stretch(5, 0);
        x.stretch(6, 0);
        for (int s : new int[] {-1, 2, 9, 10, NONE, LEAST, MOST}) {
            DUE.is("as(" + s + ", 0)", x.as(s, 0), BAD);
            DUE.is("as(" + s + ", 1)", x.as(s, 1), BAD);
        }
        DUE.is("the first", x.as(0, 3), 5);
        DUE.is("the last", x.as(1, 3), 6);
    }

    private static void asOfAKind() {
        DUE.says("Promise 18: a KIND (0 .. 3)");
        ChairFront x = one(7, 0, 0, 0);
        for (int kind : new int[] {-1, 4, LEAST, MOST, NONE, NOT}) {
            DUE.is("as(0, " + kind + ")", x.as(0, kind), BAD);
        }
        DUE.is("as(0, 0)", x.as(0, 0), 7);
        DUE.is("as(0, 3)", x.as(0, 3), 7);
    }

    private static void asAnswersHeight() {
        DUE.says("Promise 18: its HEIGHT");
        DUE.is("0", one(0, 0, 0, 0).as(0, 0), 0);
        DUE.is("500", one(500, 0, 0, 0).as(0, 3), 500);
        DUE.is("0 of a crowd", one(0, 1, 1, 1).as(0, 2), 0);
        DUE.is("500 of a sold one", one(500, 1, 1, 0).as(0, 1), 500);
    }

    private static void asIsNotThat() {
        DUE.says("Promise 18: KIND: it is not that, too");
        int[][] shores = {{10, 9, 5}, {10, 10, 0}, {10, 10, 1}, {0, 0, 9}};
        int[][] due = {{8, NOT, NOT, NOT}, {8, 8, NOT, NOT}, {8, 8, 8, NOT}, {8, NOT, NOT, 8}};
        for (int k = 0; k < 4; k++) {
            ChairFront x = one(8, shores[k][0], shores[k][1], shores[k][2]);
            DUE.is("kind(0)", x.kind(0), k);
            for (int kind = 0; kind < 4; kind++) {
                DUE.is("of kind " + k + ", as(0, " + kind + ")", x.as(0, kind), due[k][kind]);
            }
        }
    }

    private static void askOfAStretch() {
        DUE.says("Promise 19: An ASK of a STRETCH. BAD");
        ChairFront x = new ChairFront(5);
        DUE.is("before one", x.ask(0, 0), BAD);
        x.stretch(5, 1);
        x.stretch(6, 2);
        for (int s : new int[] {-1, 2, 9, 10, NONE, LEAST, MOST}) {
            DUE.is("ask(" + s + ", 0)", x.ask(s, 0), BAD);
            DUE.is("ask(" + s + ", 1)", x.ask(s, 1), BAD);
        }
        DUE.is("the first", x.ask(0, 0), 5);
        DUE.is("the last", x.ask(1, 0), 6);
    }

    private static void askOfWhat() {
        DUE.says("Promise 19: An ASK (0, 1)");
        ChairFront x = one(9, 0, 0, 0);
        for (int what : new int[] {-1, 2, 10, 20, LEAST, MOST, NONE}) {
            DUE.is("ask(0, " + what + ")", x.ask(0, what), BAD);
        }
        DUE.is("ask(0, 0)", x.ask(0, 0), 9);
        DUE.is("ask(0, 1)", x.ask(0, 1), 12);
    }

    private static void worthLent() {
        DUE.says("10 lent to all STRETCHES: chairs STANDING");
        asked(one(5, 1, 0, 0), 0, 1, 10);
        asked(one(5, 9000, 0, 500), 0, 9000, 10);
        asked(one(5, 10, 9, 500), 0, 10, 10);
    }

    private static void worthOfSold() {
        DUE.says("11 of SOLD ones: what 10 gives, and 1000");
        asked(one(5, 1, 1, 0), 0, 1001, 11, 10);
        asked(one(5, 3000, 3000, 0), 0, 4000, 11, 10);
    }

    private static void worthOfCrowd() {
        DUE.says("12 of CROWDS: what 11 gives, and MARK");
        asked(one(5, 1, 1, 1), 0, 1 + 1000 + 3 + 1, 12, 11, 10, 21, 20);
        asked(one(5, 3000, 3000, 500), 0, 3000 + 1000 + 3 + 500, 12, 11, 10, 21, 20);
    }

    private static void worthOfBare() {
        DUE.says("13 of BARE ones: HEIGHT");
        asked(one(0, 0, 0, 0), 0, 0, 13);
        asked(one(500, 0, 0, 500), 0, 500, 13);
    }

    private static void markLent() {
        DUE.says("20 lent to all STRETCHES: ZONE");
        asked(one(5, 1, 0, 500), 1, 3, 20);
        ChairFront x = new ChairFront(9);
        x.stretch(5, 0);
        x.carry(NONE, 0, 9);
        asked(x, 1, 0, 20);
    }

    private static void markOfSold() {
        DUE.says("else that of the nearest KIND that it is, too, else the one that is lent");
        asked(one(5, 1, 1, 0), 1, 3, 20);
    }

    private static void markOfCrowd() {
        DUE.says("21 of CROWDS: what 20 gives, and UNPAID");
        asked(one(5, 1, 1, 1), 1, 4, 21, 20);
        asked(one(5, 1, 1, 500), 1, 503, 21, 20);
    }

    private static void markOfBare() {
        DUE.says("22 of BARE ones: what 20 gives, and WORTH");
        asked(one(0, 0, 0, 0), 1, 3, 22, 20, 13);
        asked(one(500, 0, 0, 9), 1, 503, 22, 20, 13);
    }

    private static void traceOfANewOne() {
        DUE.says("Promise 20: NONE (before any ASK)");
        ChairFront x = one(5, 1, 1, 1);
        for (int i : new int[] {-1, 0, 1, 15, 16, LEAST, MOST, NONE}) {
            DUE.is("trace(" + i + ")", x.trace(i), NONE);
        }
    }

    private static void traceIsEmptyAhead() {
        DUE.says("Promise 19: THE TRACE is empty ahead of it");
        ChairFront x = one(5, 1, 1, 1);
        asked(x, 0, 1005, 12, 11, 10, 21, 20);
        asked(x, 1, 4, 21, 20);
        asked(x, 0, 1005, 12, 11, 10, 21, 20);
        x.unpaid(0, 0, 0);
        asked(x, 1, 3, 20);
        for (int i = 0; i < 20; i++) {
            asked(x, 0, 1001, 11, 10);
        }
    }

    private static void traceStaysWhereRefused() {
        DUE.says("Promise 19: (where that is refused it stays)");
        ChairFront x = one(5, 1, 1, 1);
        x.ask(0, 0);
        DUE.is("no such stretch", x.ask(1, 1), BAD);
        DUE.trace("after no such stretch", x, 12, 11, 10, 21, 20);
        DUE.is("no such ask", x.ask(0, 2), BAD);
        DUE.trace("after no such ask", x, 12, 11, 10, 21, 20);
        DUE.is("no such ask", x.ask(0, -1), BAD);
        DUE.trace("after no such ask", x, 12, 11, 10, 21, 20);
    }

    /** No ask leaves more than five bodies, so the first 16 have room for all. */
    private static void traceNumbers() {
        DUE.says("Promise 20: Number i of THE TRACE; NONE; (the first 16)");
        ChairFront x = one(5, 1, 1, 1);
        x.ask(0, 0);
        DUE.is("trace(4)", x.trace(4), 20);
        for (int i : new int[] {5, 6, 15, 16, 17, -1, LEAST, MOST, NONE, BAD}) {
            DUE.is("trace(" + i + ")", x.trace(i), NONE);
        }
        DUE.is("trace(0)", x.trace(0), 12);
    }

    private static void traceOfNoOtherCall() {
        DUE.says("each of which leaves its number in THE TRACE (a BODY, no other call)");
        ChairFront x = one(5, 1, 1, 1);
        x.ask(0, 1);
        x.kind(0);
        x.as(0, 2);
        x.told(0, 5);
        x.walk(1, NONE);
        x.hour(0, 0, 0, 0);
        x.rules();
        x.unpaid(0, 0, 0);
        DUE.trace("after other calls", x, 21, 20);
    }

    private static void countOfWhat() {
        DUE.says("Promise 21: 0 STRETCHES .. 9 all BACK. BAD");
        ChairFront x = new ChairFront(5);
        for (int what : new int[] {-1, 10, LEAST, MOST, NONE}) {
            DUE.is("count(" + what + ")", x.count(what), BAD);
        }
        DUE.count("all of a new one", x, 0, 5, 0, 0, 0, 0, 0, 0, 0, 0);
    }

    private static void countOfEach() {
        DUE.says("Promise 21: How many");
        ChairFront x = new ChairFront(700);
        x.stretch(50, 0);
        x.stretch(100, 0);
        x.stretch(100, 0);
        x.carry(NONE, 0, 30);
        x.carry(NONE, 1, 250);
        x.hire(0, 10, 12);
        x.hire(1, 10, 12);
        x.hire(1, 10, 1);
        Due.rules(x, "rain 1 part 10;");
        x.hour(50, 0, 1, 10);
        x.hour(0, 0, 0, 0);
        DUE.count("each another", x, 3, 420, 248, 30, 2, 1, 3, 2, 1200 + 1200 + 100, 20);
    }

    private static void lastOfTheCalls() {
        DUE.says("An object is used for at most 512 calls after it has been made");
        ChairFront x = one(5, 1, 1, 1);
        for (int call = 5; call <= 510; call++) {
            DUE.is("call " + call, x.count(0), 1);
        }
        DUE.is("the 511th call", x.ask(0, 0), 1005);
        DUE.is("the 512th call", x.trace(4), 20);
    }
}
