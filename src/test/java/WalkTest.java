/** Promises 15 and 16: unpaid, walk. */
final class WalkTest {
    private static final int NONE = ChairFront.NONE, BAD = ChairFront.BAD;
    private static final Due DUE = new Due();

    public static void main(String[] args) {
        unpaid();
        walkRefused();
        oneStretch();
        bestOrder();
        leastFirstOfSeveral();
        sevenStretches();
        DUE.end();
    }

    private static ChairFront shore(int[]... unpaid) {
        ChairFront x = new ChairFront(100);
        for (int i = 0; i < unpaid.length; i++) {
            x.stretch(10, 0);
            x.unpaid(i, unpaid[i][0], unpaid[i][1]);
        }
        return x;
    }

    private static void unpaid() {
        ChairFront x = new ChairFront(100);
        DUE.is("no stretch", x.unpaid(0, 1, 1), BAD);
        x.stretch(10, 0);
        DUE.is("unpaid(0, 500, 500)", x.unpaid(0, 500, 500), 1);
        DUE.is("told", x.told(0, 5), 500);
        int[][] wrong = {{1, 1, 1}, {-1, 1, 1}, {NONE, 1, 1}, {0, -1, 1}, {0, 501, 1}, {0, 1, -1}, {0, 1, 501}};
        for (int[] w : wrong) {
            DUE.is("unpaid(" + w[0] + ", " + w[1] + ", " + w[2] + ")", x.unpaid(w[0], w[1], w[2]), BAD);
        }
        DUE.is("told, still", x.told(0, 5), 500);
        DUE.is("found, still", x.walk(1, NONE), 500);
        DUE.is("unpaid(0, 0, 0)", x.unpaid(0, 0, 0), 1);
        DUE.is("told", x.told(0, 5), 0);
        DUE.is("found", x.walk(1, NONE), 0);
    }

    private static void walkRefused() {
        ChairFront x = shore(new int[10][2]);
        DUE.is("an empty set", x.walk(0, NONE), BAD);
        DUE.is("an empty set", x.walk(0, 0), BAD);
        DUE.is("seven of ten", x.walk(0b1011011011, NONE), 0);
        DUE.is("eight of ten", x.walk(0b1111011011, NONE), BAD);
        DUE.is("ten of ten", x.walk(1023, NONE), BAD);
        DUE.is("the 11th", x.walk(1024, NONE), BAD);
        DUE.is("the 11th, too", x.walk(1025, NONE), BAD);
        DUE.is("bit 30", x.walk(1 << 30, NONE), BAD);
        DUE.is("bit 31", x.walk(1 << 31, NONE), BAD);
        DUE.is("bit 31, too", x.walk(1 << 31 | 1, 0), BAD);
        DUE.is("all bits", x.walk(-1, 0), BAD);
        ChairFront two = shore(new int[2][2]);
        DUE.is("a third", two.walk(4, NONE), BAD);
        DUE.is("a third, too", two.walk(7, 5), BAD);
        DUE.is("none there", new ChairFront(1).walk(1, NONE), BAD);
    }

    private static void oneStretch() {
        ChairFront x = shore(new int[] {9, 4}, new int[] {8, 500});
        walks(x, 2, 8, 1);
        DUE.is("i = -1", x.walk(2, -1), NONE);
        DUE.is("i = BAD", x.walk(2, BAD), NONE);
        DUE.is("i = the least", x.walk(2, Integer.MIN_VALUE), NONE);
        DUE.is("i = the greatest", x.walk(2, Integer.MAX_VALUE), NONE);
    }

    private static void bestOrder() {
        ChairFront x = shore(new int[] {10, 3}, new int[] {20, 5}, new int[] {20, 20}, new int[] {500, 0});
        walks(x, 0b0011, 27, 1, 0);
        walks(x, 0b0110, 35, 2, 1);
        walks(x, 0b0111, 39, 2, 1, 0);
        walks(x, 0b1111, 539, 2, 1, 0, 3);
        walks(x, 0b1001, 510, 0, 3);
        x.unpaid(3, 500, 400);
        walks(x, 0b1001, 507, 3, 0);
        x.unpaid(3, 0, 400);
        walks(x, 0b1001, 10, 0, 3);
    }

    private static void leastFirstOfSeveral() {
        ChairFront x = shore(new int[] {5, 0}, new int[] {5, 0}, new int[] {5, 0}, new int[] {5, 5}, new int[] {5, 5});
        walks(x, 0b00111, 15, 0, 1, 2);
        walks(x, 0b01111, 20, 3, 0, 1, 2);
        walks(x, 0b11111, 20, 3, 0, 1, 2, 4);
        walks(x, 0b11000, 5, 3, 4);
        walks(x, 0b10110, 15, 4, 1, 2);
    }

    private static void sevenStretches() {
        ChairFront x = shore(new int[] {60, 10}, new int[] {60, 11}, new int[] {60, 12}, new int[] {60, 13},
            new int[] {0, 0}, new int[] {60, 14}, new int[] {1, 1}, new int[] {60, 15}, new int[] {60, 16},
            new int[] {500, 0});
        // Nobody is left at the last two steps, so several walks find 190: the one that begins least is told.
        walks(x, 0b0110101111, 190, 5, 3, 2, 1, 0, 7, 8);
        DUE.is("the 8th of seven", x.walk(0b0110101111, 7), NONE);
        walks(x, 0b1001010001, 560, 0, 4, 6, 9);
    }

    private static void walks(ChairFront x, int set, int finds, int... stops) {
        DUE.is("walk(" + set + ", NONE)", x.walk(set, NONE), finds);
        for (int i = 0; i < stops.length; i++) {
            DUE.is("walk(" + set + ", " + i + ")", x.walk(set, i), stops[i]);
        }
        DUE.is("walk(" + set + ", " + stops.length + ")", x.walk(set, stops.length), NONE);
    }
}
