/** Each sentence of promises 15 and 16, and of part 3 of the terms, that names a boundary. */
final class WalkEdgesTest {
    private static final int NONE = ChairFront.NONE, BAD = ChairFront.BAD;
    private static final int LEAST = Integer.MIN_VALUE, MOST = Integer.MAX_VALUE;
    private static final Due DUE = new Due();

    public static void main(String[] args) {
        unpaidOfAStretch();
        unpaidNumbers();
        unpaidThatGo();
        unpaidAnew();
        unpaidAtFirst();
        setHasNone();
        setOfWhatIsNotThere();
        setOfOneToSeven();
        setOfMoreThanSeven();
        eachStretchAlone();
        firstAtStepNought();
        noughtAtLeast();
        mostOfAll();
        orderOfSeveral();
        orderThenLikewise();
        notGreedy();
        placesOfTheWalk();
        walkChangesNothing();
        DUE.end();
    }

    private static ChairFront shore(int[]... unpaid) {
        ChairFront x = new ChairFront(100);
        for (int i = 0; i < unpaid.length; i++) {
            x.stretch(10, 0);
            x.unpaid(i, unpaid[i][0], unpaid[i][1]);
        }
        return x;
    }

    private static int[] of(int n, int go) {
        return new int[] {n, go};
    }

    private static void walks(ChairFront x, int set, int finds, int... stops) {
        DUE.is("walk(" + set + ", NONE)", x.walk(set, NONE), finds);
        for (int i = 0; i < stops.length; i++) {
            DUE.is("walk(" + set + ", " + i + ")", x.walk(set, i), stops[i]);
        }
        DUE.is("walk(" + set + ", " + stops.length + ")", x.walk(set, stops.length), NONE);
    }

    private static void unpaidOfAStretch() {
        DUE.says("Promise 15: UNPAID of a STRETCH; BAD");
        ChairFront x = new ChairFront(1);
        DUE.is("before one", x.unpaid(0, 1, 1), BAD);
        x.stretch(5, 0);
        x.stretch(5, 0);
        for (int s : new int[] {-1, 2, 9, 10, NONE, LEAST, MOST}) {
            DUE.is("unpaid(" + s + ", 1, 1)", x.unpaid(s, 1, 1), BAD);
        }
        DUE.is("the first", x.unpaid(0, 3, 1), 1);
        DUE.is("the last", x.unpaid(1, 4, 1), 1);
        DUE.is("of the first", x.told(0, 5), 3);
        DUE.is("of the last", x.told(1, 5), 4);
    }

    private static void unpaidNumbers() {
        DUE.says("how many sit there without a TICKET (0 to 500)");
        ChairFront x = shore(of(7, 2), of(0, 0));
        for (int n : new int[] {-1, 501, LEAST, MOST, NONE}) {
            DUE.is("n = " + n, x.unpaid(0, n, 1), BAD);
        }
        DUE.is("as it was", x.told(0, 5), 7);
        DUE.is("n = 500", x.unpaid(0, 500, 1), 1);
        DUE.is("500", x.told(0, 5), 500);
        DUE.is("n = 0", x.unpaid(0, 0, 1), 1);
        DUE.is("0", x.told(0, 5), 0);
    }

    private static void unpaidThatGo() {
        DUE.says("how many of them go at each step (0 to 500)");
        ChairFront x = shore(of(500, 500), of(500, 500));
        DUE.is("500 go", x.walk(3, NONE), 500);
        for (int go : new int[] {-1, 501, LEAST, MOST, NONE}) {
            DUE.is("go = " + go, x.unpaid(0, 5, go), BAD);
        }
        DUE.is("as it was", x.walk(3, NONE), 500);
        DUE.is("n is as it was", x.told(0, 5), 500);
        DUE.is("go = 0", x.unpaid(0, 500, 0), 1);
        DUE.is("none goes", x.walk(3, NONE), 1000);
        x.unpaid(0, 500, 499);
        DUE.is("499 go", x.walk(3, NONE), 501);
        DUE.is("more go than sit there", x.unpaid(0, 1, 500), 1);
        DUE.is("one is found first", x.walk(1, NONE), 1);
    }

    private static void unpaidAnew() {
        DUE.says("Promise 15: UNPAID of a STRETCH, and how many go: 1");
        ChairFront x = shore(of(10, 3), of(10, 3));
        DUE.is("the same again", x.unpaid(0, 10, 3), 1);
        walks(x, 3, 17, 0, 1);
        DUE.is("it is told, not added", x.unpaid(0, 10, 4), 1);
        walks(x, 3, 17, 0, 1);
        DUE.is("the other goes sooner", x.unpaid(1, 10, 5), 1);
        walks(x, 3, 16, 1, 0);
    }

    private static void unpaidAtFirst() {
        DUE.says("UNPAID of a STRETCH (none at first)");
        ChairFront x = new ChairFront(1);
        x.stretch(5, 0);
        x.stretch(5, 0);
        DUE.is("told", x.told(0, 5), 0);
        walks(x, 3, 0, 0, 1);
    }

    private static void setHasNone() {
        DUE.says("Promise 16: BAD: .. or it has none");
        ChairFront x = shore(of(5, 1));
        for (int i : new int[] {NONE, 0, -1, 7}) {
            DUE.is("walk(0, " + i + ")", x.walk(0, i), BAD);
            DUE.is("walk(0, " + i + ") of an empty shore", new ChairFront(1).walk(0, i), BAD);
        }
    }

    private static void setOfWhatIsNotThere() {
        DUE.says("Promise 16: BAD: a STRETCH of the set is not there");
        for (int n = 0; n <= 10; n++) {
            ChairFront x = shore(new int[n][2]);
            if (n > 0) {
                DUE.is("the last of " + n, x.walk(1 << n - 1, 0), n - 1);
            }
            for (int bit = n; bit < 32; bit++) {
                DUE.is("bit " + bit + " of " + n, x.walk(1 << bit, NONE), BAD);
            }
            DUE.is("all bits", x.walk(-1, NONE), BAD);
            DUE.is("the first and one beyond", x.walk(1 | 1 << n, -1), BAD);
            DUE.is("bit 31 beside another", x.walk(LEAST | 1, NONE), BAD);
            DUE.is("no such set for any i", x.walk(1 << n, 50), BAD);
        }
    }

    private static void setOfOneToSeven() {
        DUE.says("A WALK over a set of STRETCHES (bits), each once");
        ChairFront x = shore(of(1, 0), of(2, 0), of(4, 0), of(8, 0), of(16, 0), of(32, 0), of(64, 0), of(128, 0), of(256, 0), of(500, 0));
        walks(x, 0b1, 1, 0);
        walks(x, 0b1000000000, 500, 9);
        walks(x, 0b11, 3, 0, 1);
        walks(x, 0b1111111, 127, 0, 1, 2, 3, 4, 5, 6);
        walks(x, 0b1111111000, 8 + 16 + 32 + 64 + 128 + 256 + 500, 3, 4, 5, 6, 7, 8, 9);
        walks(x, 0b1010101011, 1 + 2 + 8 + 32 + 128 + 500, 0, 1, 3, 5, 7, 9);
    }

    private static void setOfMoreThanSeven() {
        DUE.says("Promise 16: BAD: .. or more than 7");
        ChairFront x = shore(new int[10][2]);
        DUE.is("seven", x.walk(0b1111111, NONE), 0);
        DUE.is("eight", x.walk(0b11111111, NONE), BAD);
        DUE.is("eight others", x.walk(0b1111111100, 0), BAD);
        DUE.is("nine", x.walk(0b111111111, NONE), BAD);
        DUE.is("ten", x.walk(0b1111111111, NONE), BAD);
        for (int set = 0; set < 1024; set += 3) {
            ChairFront y = shore(new int[10][2]);
            int stops = Integer.bitCount(set);
            DUE.is("walk(" + set + ", NONE)", y.walk(set, NONE), stops == 0 || stops > 7 ? BAD : 0);
        }
    }

    private static void eachStretchAlone() {
        DUE.says("the first at step 0 (a walk of one)");
        ChairFront x = shore(of(0, 500), of(1, 500), of(500, 500));
        walks(x, 1, 0, 0);
        walks(x, 2, 1, 1);
        walks(x, 4, 500, 2);
    }

    private static void firstAtStepNought() {
        DUE.says("it finds at each, at its step t, UNPAID less t times those that go");
        ChairFront x = shore(of(100, 1), of(100, 1), of(100, 1), of(100, 1), of(100, 1), of(100, 1), of(100, 1));
        for (int n = 1; n <= 7; n++) {
            DUE.is("a walk of " + n, x.walk((1 << n) - 1, NONE), 100 * n - n * (n - 1) / 2);
        }
    }

    private static void noughtAtLeast() {
        DUE.says("0 at least");
        ChairFront x = shore(of(10, 5), of(10, 5), of(10, 5), of(10, 5));
        walks(x, 0b0111, 15, 0, 1, 2);
        walks(x, 0b1111, 15, 0, 1, 2, 3);
        ChairFront y = shore(of(5, 6), of(5, 5), of(5, 4));
        walks(y, 0b011, 5, 0, 1);
        walks(y, 0b101, 6, 0, 2);
        walks(y, 0b110, 6, 1, 2);
        walks(y, 0b111, 6, 0, 2, 1);
    }

    private static void mostOfAll() {
        DUE.says("UNPAID (0 to 500), go (0 to 500)");
        ChairFront none = shore(of(500, 0), of(500, 0), of(500, 0), of(500, 0), of(500, 0), of(500, 0), of(500, 0));
        walks(none, 127, 3500, 0, 1, 2, 3, 4, 5, 6);
        ChairFront all = shore(of(500, 500), of(500, 500), of(500, 500), of(500, 500), of(500, 500), of(500, 500), of(500, 500));
        walks(all, 127, 500, 0, 1, 2, 3, 4, 5, 6);
    }

    private static void orderOfSeveral() {
        DUE.says("BEST WALK: it finds most; of several the least STRETCH first");
        ChairFront x = shore(of(9, 9), of(9, 9), of(9, 0));
        walks(x, 0b011, 9, 0, 1);
        walks(x, 0b110, 18, 1, 2);
        walks(x, 0b111, 18, 0, 1, 2);
        ChairFront y = shore(of(0, 0), of(0, 500), of(7, 7));
        walks(y, 0b111, 7, 2, 0, 1);
        ChairFront z = shore(of(3, 1), of(3, 1));
        walks(z, 0b11, 5, 0, 1);
    }

    private static void orderThenLikewise() {
        DUE.says("then likewise");
        ChairFront x = shore(of(6, 0), of(6, 3), of(6, 3), of(6, 6), of(6, 0));
        walks(x, 0b01111, 6 + 3 + 6 + 0, 1, 2, 0, 3);
        walks(x, 0b11110, 6 + 3 + 0 + 6, 1, 2, 3, 4);
        walks(x, 0b11001, 6 + 6 + 6, 3, 0, 4);
        walks(x, 0b10111, 6 + 3 + 6 + 6, 1, 2, 0, 4);
    }

    /** The one where most sit is not always the first to go to. */
    private static void notGreedy() {
        DUE.says("BEST WALK: it finds most");
        ChairFront x = shore(of(100, 1), of(50, 50));
        walks(x, 0b11, 149, 1, 0);
        ChairFront y = shore(of(100, 10), of(90, 45), of(80, 80), of(10, 0));
        walks(y, 0b1111, 80 + 45 + 80 + 10, 2, 1, 0, 3);
    }

    private static void placesOfTheWalk() {
        DUE.says("Promise 16: its i-th STRETCH; NONE: there are not so many (another i below 0, too)");
        ChairFront x = shore(of(1, 1), of(2, 2), of(3, 3), of(4, 4), of(5, 5), of(6, 6), of(7, 7));
        for (int n = 1; n <= 7; n++) {
            int set = (1 << n) - 1;
            DUE.is("the last of " + n, x.walk(set, n - 1) >= 0 ? 1 : 0, 1);
            for (int i : new int[] {n, n + 1, 7, 8, 100, MOST, -1, -2, -7, NONE + 1, NONE - 1, BAD, LEAST}) {
                DUE.is("walk(" + set + ", " + i + ")", x.walk(set, i), NONE);
            }
        }
    }

    private static void walkChangesNothing() {
        DUE.says("A WALK .. finds (nobody goes by it)");
        ChairFront x = shore(of(10, 3), of(20, 5), of(30, 7));
        for (int i = 0; i < 3; i++) {
            walks(x, 0b111, 30 + 15 + 4, 2, 1, 0);
            walks(x, 0b011, 27, 1, 0);
        }
        DUE.is("told", x.told(0, 5), 10);
    }
}
