/** Each sentence of promise 14, and of TAKINGS and RENT in the terms, that names a boundary. */
final class RentEdgesTest {
    private static final int NONE = ChairFront.NONE, BAD = ChairFront.BAD;
    private static final Due DUE = new Due();

    public static void main(String[] args) {
        amounts();
        withoutLines();
        upToTheEndAndAbove();
        firstEndNought();
        partsNoneAndAll();
        cutEachByItself();
        aboveAllNothing();
        fiveLines();
        mostOfAll();
        takingsOfNothing();
        takingsAreLessByBack();
        takingsAreNotAnAmount();
        takingsAboveAMillion();
        askingForRentChangesNothing();
        DUE.end();
    }

    private static ChairFront ruled(String text) {
        ChairFront x = new ChairFront(9000);
        DUE.is("'" + text + "' stands", Due.rules(x, text) >= 0 ? 1 : 0, 1);
        x.stretch(10, 0);
        x.carry(NONE, 0, 9000);
        return x;
    }

    private static void rents(ChairFront x, int[]... amountAndRent) {
        for (int[] r : amountAndRent) {
            DUE.is("rent(" + r[0] + ")", x.rent(r[0]), r[1]);
        }
    }

    private static void amounts() {
        DUE.says("Promise 14: RENT of an amount (0 to 1000000); BAD");
        ChairFront x = ruled("rent 99999 part 100;");
        for (int amount : new int[] {-1, 1000001, NONE - 1, NONE + 1, Integer.MIN_VALUE, Integer.MAX_VALUE}) {
            DUE.is("rent(" + amount + ")", x.rent(amount), BAD);
        }
        rents(x, new int[] {0, 0}, new int[] {1, 1}, new int[] {999999, 99999}, new int[] {1000000, 99999});
    }

    private static void withoutLines() {
        DUE.says("from each RENT line (there is none at first)");
        ChairFront x = new ChairFront(1);
        rents(x, new int[] {0, 0}, new int[] {1000000, 0}, new int[] {NONE, 0}, new int[] {-1, BAD});
        rents(ruled("hold any;rain 1 part 100;"), new int[] {1000000, 0});
    }

    private static void upToTheEndAndAbove() {
        DUE.says("what lies above the upper end of the line ahead (0) and not above its own");
        ChairFront x = ruled("rent 100 part 100;rent 200 part 0;rent 300 part 100;");
        rents(x, new int[] {0, 0}, new int[] {1, 1}, new int[] {99, 99}, new int[] {100, 100}, new int[] {101, 100},
            new int[] {199, 100}, new int[] {200, 100}, new int[] {201, 101}, new int[] {299, 199}, new int[] {300, 200},
            new int[] {301, 200});
    }

    private static void firstEndNought() {
        DUE.says("up to so much of what came in (0 to 99999) (an end of 0 has nothing)");
        rents(ruled("rent 0 part 100;"), new int[] {0, 0}, new int[] {1, 0}, new int[] {1000000, 0});
        rents(ruled("rent 0 part 100;rent 1 part 100;"), new int[] {0, 0}, new int[] {1, 1}, new int[] {2, 1});
    }

    private static void partsNoneAndAll() {
        DUE.says("a part by 100 (0 to 100)");
        rents(ruled("rent 99999 part 0;"), new int[] {99999, 0});
        rents(ruled("rent 99999 part 1;"), new int[] {99, 0}, new int[] {100, 1}, new int[] {99999, 999});
        rents(ruled("rent 99999 part 99;"), new int[] {1, 0}, new int[] {2, 1}, new int[] {99999, 98999});
        rents(ruled("rent 99999 part 100;"), new int[] {99999, 99999});
    }

    private static void cutEachByItself() {
        DUE.says("cut each by itself");
        ChairFront x = ruled("rent 1 part 50;rent 2 part 50;rent 3 part 99;rent 5 part 50;");
        rents(x, new int[] {1, 0}, new int[] {2, 0}, new int[] {3, 0}, new int[] {4, 0}, new int[] {5, 1});
        rents(ruled("rent 199 part 1;rent 398 part 1;"), new int[] {398, 2}, new int[] {299, 2}, new int[] {298, 1});
    }

    private static void aboveAllNothing() {
        DUE.says("what is above all: nothing");
        ChairFront x = ruled("rent 10 part 100;");
        rents(x, new int[] {10, 10}, new int[] {11, 10}, new int[] {99999, 10}, new int[] {1000000, 10});
    }

    private static void fiveLines() {
        DUE.says("from each RENT line (five of them)");
        ChairFront x = ruled("rent 10 part 10;rent 20 part 20;rent 30 part 30;rent 40 part 40;rent 50 part 50;");
        rents(x, new int[] {10, 1}, new int[] {20, 3}, new int[] {30, 6}, new int[] {40, 10}, new int[] {49, 14},
            new int[] {50, 15}, new int[] {51, 15});
    }

    private static void mostOfAll() {
        DUE.says("up to so much of what came in (0 to 99999)");
        ChairFront x = ruled("rent 99995 part 100;rent 99996 part 100;rent 99997 part 100;rent 99998 part 100;rent 99999 part 100;");
        rents(x, new int[] {99994, 99994}, new int[] {99995, 99995}, new int[] {99998, 99998}, new int[] {99999, 99999},
            new int[] {100000, 99999}, new int[] {1000000, 99999});
    }

    private static void takingsOfNothing() {
        DUE.says("Promise 14: of TAKINGS (amount = NONE; below 0: 0)");
        ChairFront x = ruled("rent 99999 part 100;rain 1 part 100;");
        DUE.is("nothing came in", x.rent(NONE), 0);
        x.hire(0, 10, 1);
        DUE.is("100", x.rent(NONE), 100);
        x.hour(0, 0, 60, 0);
        DUE.is("all is back", x.rent(NONE), 0);
        DUE.is("paid", x.count(8), 100);
        DUE.is("back", x.count(9), 100);
    }

    private static void takingsAreLessByBack() {
        DUE.says("TAKINGS: all that was PAID less all that was BACK");
        ChairFront x = ruled("rent 99999 part 100;rain 30 part 25;");
        x.hire(0, 10, 4);
        DUE.is("paid", x.rent(NONE), 400);
        x.hour(0, 0, 30, 0);
        DUE.is("less by rain", x.rent(NONE), 375);
        x.hour(0, 61, 30, 0);
        DUE.is("less by wind", x.rent(NONE), 75);
        x.hour(0, 0, 0, 0);
        x.hire(0, 10, 4);
        x.hour(10, 0, 30, 0);
        DUE.is("not less by the tide", x.rent(NONE), 475);
    }

    private static void takingsAreNotAnAmount() {
        DUE.says("Promise 14: RENT of an amount; of TAKINGS");
        ChairFront x = ruled("rent 99999 part 100;");
        x.hire(0, 10, 4);
        DUE.is("an amount", x.rent(7), 7);
        DUE.is("no amount", x.rent(0), 0);
        DUE.is("takings", x.rent(NONE), 400);
    }

    private static void takingsAboveAMillion() {
        DUE.says("Promise 14: of TAKINGS (which may be more than an amount may)");
        ChairFront x = ruled("rent 99999 part 100;");
        x.rule(0, 100);
        for (int i = 0; i < 30; i++) {
            x.hire(0, 100, 12);
        }
        DUE.is("paid", x.count(8), 3600000);
        DUE.is("rent", x.rent(NONE), 99999);
    }

    private static void askingForRentChangesNothing() {
        DUE.says("Promise 14: RENT of an amount (it is told, not paid)");
        ChairFront x = ruled("rent 99999 part 50;");
        x.hire(0, 10, 4);
        DUE.is("once", x.rent(NONE), 200);
        DUE.is("twice", x.rent(NONE), 200);
        DUE.is("paid", x.count(8), 400);
        DUE.is("back", x.count(9), 0);
    }
}
