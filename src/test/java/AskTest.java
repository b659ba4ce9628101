/** Promises 17 to 21: kind, as, ask, trace, count. */
final class AskTest {
    private static final int NONE = ChairFront.NONE, BAD = ChairFront.BAD, NOT = ChairFront.KIND;
    private static final Due DUE = new Due();

    public static void main(String[] args) {
        kinds();
        refused();
        asks();
        kindsThatChange();
        count();
        DUE.end();
    }

    /** Stretches 0 plain, 1 sold, 2 a crowd, 3 bare, 4 plain with unpaid ones, 5 bare with unpaid ones. */
    private static ChairFront shore() {
        ChairFront x = new ChairFront(100);
        for (int i = 0; i < 6; i++) {
            x.stretch(100 + i, i % 4);
        }
        x.carry(NONE, 0, 5);
        x.carry(NONE, 1, 6);
        x.carry(NONE, 2, 7);
        x.carry(NONE, 4, 8);
        x.hire(0, 4, 1);
        x.hire(1, 6, 1);
        x.hire(2, 7, 1);
        x.unpaid(2, 1, 0);
        x.unpaid(4, 30, 0);
        x.unpaid(5, 40, 0);
        return x;
    }

    private static void kinds() {
        ChairFront x = shore();
        int[] told = {0, 1, 2, 3, 0, 3};
        int[][] as = {{100, NOT, NOT, NOT}, {101, 101, NOT, NOT}, {102, 102, 102, NOT}, {103, NOT, NOT, 103},
            {104, NOT, NOT, NOT}, {105, NOT, NOT, 105}};
        for (int s = 0; s < told.length; s++) {
            DUE.is("kind(" + s + ")", x.kind(s), told[s]);
            for (int k = 0; k < 4; k++) {
                DUE.is("as(" + s + ", " + k + ")", x.as(s, k), as[s][k]);
            }
        }
    }

    private static void refused() {
        ChairFront x = shore();
        x.ask(2, 1);
        for (int s : new int[] {-1, 6, NONE, Integer.MAX_VALUE, Integer.MIN_VALUE}) {
            DUE.is("kind(" + s + ")", x.kind(s), BAD);
            DUE.is("as(" + s + ", 0)", x.as(s, 0), BAD);
            DUE.is("ask(" + s + ", 0)", x.ask(s, 0), BAD);
        }
        DUE.is("as(0, -1)", x.as(0, -1), BAD);
        DUE.is("as(0, 4)", x.as(0, 4), BAD);
        DUE.is("ask(0, -1)", x.ask(0, -1), BAD);
        DUE.is("ask(0, 2)", x.ask(0, 2), BAD);
        DUE.trace("a refused ask leaves it", x, 21, 20);
        DUE.is("trace(-1)", x.trace(-1), NONE);
        DUE.is("trace(15)", x.trace(15), NONE);
        DUE.is("trace(16)", x.trace(16), NONE);
        DUE.is("trace(NONE)", x.trace(NONE), NONE);
        DUE.is("trace(the greatest)", x.trace(Integer.MAX_VALUE), NONE);
    }

    private static void asks() {
        ChairFront x = shore();
        asked(x, 0, 0, 5, 10);
        asked(x, 0, 1, 0, 20);
        asked(x, 1, 0, 1006, 11, 10);
        asked(x, 1, 1, 1, 20);
        asked(x, 2, 0, 1010, 12, 11, 10, 21, 20);
        asked(x, 2, 1, 3, 21, 20);
        asked(x, 3, 0, 103, 13);
        asked(x, 3, 1, 106, 22, 20, 13);
        asked(x, 4, 0, 8, 10);
        asked(x, 4, 1, 0, 20);
        asked(x, 5, 0, 105, 13);
        asked(x, 5, 1, 106, 22, 20, 13);
    }

    private static void kindsThatChange() {
        ChairFront x = shore();
        x.unpaid(2, 0, 9);
        DUE.is("a crowd no more", x.kind(2), 1);
        x.unpaid(2, 500, 9);
        asked(x, 2, 0, 1509, 12, 11, 10, 21, 20);
        x.carry(NONE, 2, 1);
        DUE.is("one is free", x.kind(2), 0);
        asked(x, 2, 0, 8, 10);
        x.carry(2, NONE, 1);
        DUE.is("none is free", x.kind(2), 2);
        x.hour(0, 0, 0, 0);
        DUE.is("the ticket ended", x.kind(2), 0);
        x.carry(2, NONE, 7);
        DUE.is("none stands", x.kind(2), 3);
        asked(x, 2, 1, 104, 22, 20, 13);
    }

    private static void count() {
        ChairFront x = shore();
        DUE.count("hired", x, 6, 74, 26, 0, 0, 3, 3, 0, 170, 0);
        x.hour(102, 80, 0, 10);
        DUE.count("lost", x, 6, 74, 8, 18, 0, 0, 3, 1, 170, 0);
        DUE.is("count(10)", x.count(10), BAD);
        DUE.is("count(-1)", x.count(-1), BAD);
        DUE.is("count(NONE)", x.count(NONE), BAD);
        x.hour(0, 0, 0, 0);
        DUE.is("a fourth ticket", x.hire(4, 8, 12), 3);
        for (int i = 0; i < 12; i++) {
            x.hour(0, 0, 0, 9);
        }
        DUE.count("944 of wear", x, 6, 74, 8, 18, 0, 0, 4, 14, 1130, 0);
        x.hour(0, 0, 0, 7);
        DUE.count("one broke", x, 6, 74, 7, 18, 1, 0, 4, 15, 1130, 0);
    }

    private static void asked(ChairFront x, int stretch, int what, int want, int... trace) {
        String call = "ask(" + stretch + ", " + what + ")";
        DUE.is(call, x.ask(stretch, what), want);
        DUE.trace(call, x, trace);
    }
}
