/** Each sentence of promises 1 to 6, and of part 1 of the terms, that names a boundary. */
final class ShoreEdgesTest {
    private static final int NONE = ChairFront.NONE, BAD = ChairFront.BAD, STATE = ChairFront.STATE, FULL = ChairFront.FULL;
    private static final int LEAST = Integer.MIN_VALUE, MOST = Integer.MAX_VALUE;
    private static final Due DUE = new Due();

    public static void main(String[] args) {
        chairsBelowNought();
        chairsAboveNineThousand();
        newIsEmpty();
        heights();
        zones();
        tenStretches();
        numbersOfStretches();
        standingAtFirst();
        carryNoneToNineThousand();
        carryFromAndToTheSame();
        carryFromAndToWhatIsThere();
        carryNotSoManyInTheStack();
        carryNotSoManyFree();
        carryAnswersWhatIsThereThen();
        toldOfWhat();
        priceBounds();
        stopBounds();
        ruleOfWhat();
        mendBounds();
        mendNotSoMany();
        mendAllOfMany();
        allChairsAreSomewhere();
        DUE.end();
    }

    private static void chairsBelowNought() {
        DUE.says("Promise 1: below 0: 0");
        for (int chairs : new int[] {0, -1, -9000, LEAST}) {
            DUE.is("the stack of new ChairFront(" + chairs + ")", new ChairFront(chairs).count(1), 0);
        }
        DUE.is("the stack of new ChairFront(1)", new ChairFront(1).count(1), 1);
    }

    private static void chairsAboveNineThousand() {
        DUE.says("Promise 1: above 9000: 9000");
        for (int chairs : new int[] {9000, 9001, 18000, MOST}) {
            ChairFront x = new ChairFront(chairs);
            DUE.is("the stack of new ChairFront(" + chairs + ")", x.count(1), 9000);
            x.stretch(0, 0);
            DUE.is("all of it can stand", x.carry(NONE, 0, 9000), 9000);
            DUE.is("and not one more", x.carry(NONE, 0, 1), STATE);
        }
        DUE.is("the stack of new ChairFront(8999)", new ChairFront(8999).count(1), 8999);
    }

    private static void newIsEmpty() {
        DUE.says("Promise 1: A new object");
        ChairFront x = new ChairFront(3);
        DUE.count("new", x, 0, 3, 0, 0, 0, 0, 0, 0, 0, 0);
        DUE.is("no fault", x.fault(), 0);
        DUE.is("no trace", x.trace(0), NONE);
        DUE.is("no coin", x.rent(NONE), 0);
        DUE.is("an empty tape", x.feed(' ', 1), 1);
        DUE.is("price", x.rule(0, 10), 10);
        DUE.is("stop", x.rule(1, 60), 60);
    }

    private static void heights() {
        DUE.says("each of a HEIGHT 0 to 500");
        ChairFront x = new ChairFront(3);
        for (int height : new int[] {-1, 501, LEAST, MOST, NONE}) {
            DUE.is("stretch(" + height + ", 0)", x.stretch(height, 0), BAD);
        }
        DUE.is("none came", x.count(0), 0);
        int[] heights = {0, 1, 499, 500};
        for (int i = 0; i < heights.length; i++) {
            DUE.is("stretch(" + heights[i] + ", 0)", x.stretch(heights[i], 0), i);
            DUE.is("its height", x.told(i, 0), heights[i]);
        }
    }

    private static void zones() {
        DUE.says("a ZONE 0 to 3");
        ChairFront x = new ChairFront(3);
        for (int zone : new int[] {-1, 4, LEAST, MOST, NONE}) {
            DUE.is("stretch(5, " + zone + ")", x.stretch(5, zone), BAD);
        }
        DUE.is("none came", x.count(0), 0);
        for (int zone = 0; zone <= 3; zone++) {
            DUE.is("stretch(5, " + zone + ")", x.stretch(5, zone), zone);
            DUE.is("its zone", x.told(zone, 1), zone);
        }
    }

    private static void tenStretches() {
        DUE.says("Promise 2: FULL: 10");
        ChairFront x = new ChairFront(3);
        for (int i = 0; i < 10; i++) {
            DUE.is("before " + i, x.count(0), i);
            DUE.is("stretch " + i, x.stretch(i, i % 4), i);
        }
        DUE.is("the 11th", x.stretch(0, 0), FULL);
        DUE.is("the 11th, again", x.stretch(500, 3), FULL);
        DUE.is("ten", x.count(0), 10);
        for (int i = 0; i < 10; i++) {
            DUE.told("stretch " + i, x, i, i, i % 4, 0, 0, 0, 0);
        }
    }

    private static void numbersOfStretches() {
        DUE.says("Numbers go from 0 on; STRETCHES 0 .. 9");
        ChairFront x = new ChairFront(3);
        for (int i = 0; i < 10; i++) {
            DUE.is("before it is there, told(" + i + ", 0)", x.told(i, 0), BAD);
            x.stretch(100 + i, 0);
            DUE.is("told(" + i + ", 0)", x.told(i, 0), 100 + i);
        }
        DUE.is("told(10, 0)", x.told(10, 0), BAD);
        DUE.is("told(-1, 0)", x.told(-1, 0), BAD);
    }

    private static void standingAtFirst() {
        DUE.says("with chairs STANDING there (0 at first)");
        ChairFront x = new ChairFront(9000);
        x.stretch(5, 0);
        DUE.told("new", x, 0, 5, 0, 0, 0, 0, 0);
        DUE.is("no chair to hire", x.hire(0, 1, 1), FULL);
        DUE.is("no chair to carry", x.carry(0, NONE, 1), STATE);
        DUE.is("all are in the stack", x.count(1), 9000);
    }

    private static void carryNoneToNineThousand() {
        DUE.says("Promise 3: So many chairs (0 to 9000)");
        ChairFront x = new ChairFront(9000);
        x.stretch(5, 0);
        x.stretch(5, 0);
        DUE.is("n = -1", x.carry(NONE, 0, -1), BAD);
        DUE.is("n = the least", x.carry(NONE, 0, LEAST), BAD);
        DUE.is("n = 9001", x.carry(NONE, 0, 9001), BAD);
        DUE.is("n = the greatest", x.carry(NONE, 0, MOST), BAD);
        DUE.count("none came", x, 2, 9000, 0);
        DUE.is("n = 0", x.carry(NONE, 0, 0), 0);
        DUE.is("n = 0 to the stack", x.carry(0, NONE, 0), 9000);
        DUE.is("n = 9000 to a stretch", x.carry(NONE, 0, 9000), 9000);
        DUE.is("n = -1 between stretches", x.carry(0, 1, -1), BAD);
        DUE.is("n = 9001 between stretches", x.carry(0, 1, 9001), BAD);
        DUE.is("n = 9000 between stretches", x.carry(0, 1, 9000), 9000);
        DUE.is("n = -1 to the stack", x.carry(1, NONE, -1), BAD);
        DUE.is("n = 9001 to the stack", x.carry(1, NONE, 9001), BAD);
        DUE.is("n = 9000 to the stack", x.carry(1, NONE, 9000), 9000);
        DUE.count("all came back", x, 2, 9000, 0);
    }

    private static void carryFromAndToTheSame() {
        DUE.says("Promise 3: BAD (from and to the same, too)");
        ChairFront x = new ChairFront(20);
        x.stretch(5, 0);
        x.stretch(5, 0);
        x.carry(NONE, 0, 5);
        for (int n : new int[] {0, 1, 5, 6}) {
            DUE.is("stretch 0 to itself, " + n, x.carry(0, 0, n), BAD);
            DUE.is("the stack to itself, " + n, x.carry(NONE, NONE, n), BAD);
        }
        DUE.count("as it was", x, 2, 15, 5);
        DUE.is("to another one", x.carry(0, 1, 5), 5);
    }

    private static void carryFromAndToWhatIsThere() {
        DUE.says("Promise 3: from a STRETCH, or THE STACK (NONE), to another one, or THE STACK");
        ChairFront x = new ChairFront(20);
        x.stretch(5, 0);
        x.stretch(5, 0);
        x.carry(NONE, 0, 5);
        for (int no : new int[] {-1, 2, 9, 10, NONE - 1, NONE + 1, LEAST, MOST}) {
            DUE.is("from " + no, x.carry(no, 0, 0), BAD);
            DUE.is("from " + no + " to the stack", x.carry(no, NONE, 0), BAD);
            DUE.is("to " + no, x.carry(0, no, 0), BAD);
            DUE.is("the stack to " + no, x.carry(NONE, no, 0), BAD);
        }
        DUE.is("to the last one", x.carry(0, 1, 2), 2);
        DUE.is("from the last one", x.carry(1, 0, 1), 4);
        DUE.count("as many", x, 2, 15, 5);
    }

    private static void carryNotSoManyInTheStack() {
        DUE.says("Promise 3: STATE: there are not so many (in THE STACK)");
        ChairFront x = new ChairFront(7);
        x.stretch(5, 0);
        DUE.is("8 of 7", x.carry(NONE, 0, 8), STATE);
        DUE.is("9000 of 7", x.carry(NONE, 0, 9000), STATE);
        DUE.count("as it was", x, 1, 7, 0);
        DUE.is("7 of 7", x.carry(NONE, 0, 7), 7);
        DUE.is("1 of none", x.carry(NONE, 0, 1), STATE);
        DUE.is("0 of none", x.carry(NONE, 0, 0), 7);
    }

    private static void carryNotSoManyFree() {
        DUE.says("Promise 3: from a STRETCH (FREE ones)");
        ChairFront x = new ChairFront(10);
        x.stretch(5, 0);
        x.stretch(5, 0);
        x.carry(NONE, 0, 10);
        DUE.is("11 of 10", x.carry(0, 1, 11), STATE);
        x.hire(0, 4, 1);
        DUE.is("7 of 6 free ones", x.carry(0, 1, 7), STATE);
        DUE.is("7 of 6 free ones to the stack", x.carry(0, NONE, 7), STATE);
        DUE.told("as it was", x, 0, 5, 0, 10, 6);
        DUE.is("6 of 6", x.carry(0, 1, 6), 6);
        DUE.told("hired ones alone", x, 0, 5, 0, 4, 0);
        DUE.is("1 of none", x.carry(0, 1, 1), STATE);
        DUE.is("0 of none", x.carry(0, 1, 0), 6);
        DUE.is("to where all are hired", x.carry(1, 0, 1), 5);
        DUE.told("it is free", x, 0, 5, 0, 5, 1);
    }

    private static void carryAnswersWhatIsThereThen() {
        DUE.says("Promise 3: how many are there then (STANDING, in THE STACK)");
        ChairFront x = new ChairFront(30);
        x.stretch(5, 0);
        x.stretch(5, 0);
        DUE.is("standing there", x.carry(NONE, 0, 10), 10);
        x.hire(0, 10, 1);
        DUE.is("standing there, hired ones too", x.carry(NONE, 0, 3), 13);
        DUE.is("standing at the other", x.carry(0, 1, 3), 3);
        DUE.is("in the stack", x.carry(1, NONE, 2), 19);
    }

    private static void toldOfWhat() {
        DUE.says("Promise 4: 0 HEIGHT .. 5 UNPAID. BAD");
        ChairFront x = new ChairFront(30);
        x.stretch(77, 3);
        x.carry(NONE, 0, 20);
        x.hire(0, 6, 2);
        x.hour(0, 0, 0, 10);
        x.unpaid(0, 500, 0);
        DUE.told("all", x, 0, 77, 3, 20, 14, 200, 500);
        for (int what : new int[] {-1, 6, LEAST, MOST, NONE}) {
            DUE.is("told(0, " + what + ")", x.told(0, what), BAD);
        }
        for (int s : new int[] {-1, 1, 9, 10, LEAST, MOST, NONE}) {
            DUE.is("told(" + s + ", 0)", x.told(s, 0), BAD);
            DUE.is("told(" + s + ", 5)", x.told(s, 5), BAD);
        }
    }

    private static void priceBounds() {
        DUE.says("PRICE by chair and hour: 1 to 100 (at first 10)");
        ChairFront x = new ChairFront(30);
        for (int price : new int[] {0, -1, 101, LEAST, MOST}) {
            DUE.is("price " + price, x.rule(0, price), BAD);
        }
        DUE.is("at first", x.rule(0, 1), 10);
        DUE.is("1", x.rule(0, 100), 1);
        DUE.is("100", x.rule(0, 99), 100);
        DUE.is("0 again", x.rule(0, 0), BAD);
        DUE.is("99", x.rule(0, 2), 99);
        DUE.is("2", x.rule(0, 2), 2);
        DUE.is("stop is not price", x.rule(1, 60), 60);
    }

    private static void stopBounds() {
        DUE.says("STOP: 0 to 100 (60)");
        ChairFront x = new ChairFront(30);
        for (int stop : new int[] {-1, 101, LEAST, MOST}) {
            DUE.is("stop " + stop, x.rule(1, stop), BAD);
        }
        DUE.is("at first", x.rule(1, 0), 60);
        DUE.is("0", x.rule(1, 100), 0);
        DUE.is("100", x.rule(1, 99), 100);
        DUE.is("101 again", x.rule(1, 101), BAD);
        DUE.is("99", x.rule(1, 1), 99);
        DUE.is("1", x.rule(1, 1), 1);
        DUE.is("price is not stop", x.rule(0, 10), 10);
    }

    private static void ruleOfWhat() {
        DUE.says("Promise 5: PRICE (what = 0), STOP (1)");
        ChairFront x = new ChairFront(30);
        for (int what : new int[] {-1, 2, LEAST, MOST, NONE}) {
            DUE.is("rule(" + what + ", 5)", x.rule(what, 5), BAD);
        }
        DUE.is("price as at first", x.rule(0, 10), 10);
        DUE.is("stop as at first", x.rule(1, 60), 60);
    }

    /** Stretch 0 with n chairs whose thousands of wear break at once. */
    private static ChairFront broken(int chairs) {
        ChairFront x = new ChairFront(9000);
        x.stretch(5, 0);
        x.carry(NONE, 0, chairs);
        x.hour(0, 0, 0, 10);
        return x;
    }

    private static void mendBounds() {
        DUE.says("Promise 6: So many BROKEN chairs (0 to 9000)");
        ChairFront x = broken(9000);
        DUE.is("90 are broken", x.count(4), 90);
        for (int n : new int[] {-1, 9001, LEAST, MOST}) {
            DUE.is("mend(" + n + ")", x.mend(n), BAD);
        }
        DUE.is("mend(9000) is a number as told", x.mend(9000), STATE);
        DUE.is("mend(0)", x.mend(0), 90);
        DUE.count("as it was", x, 1, 0, 8910, 0, 90);
    }

    private static void mendNotSoMany() {
        DUE.says("Promise 6: STATE: there are not so many");
        ChairFront x = broken(200);
        DUE.is("3 of 2", x.mend(3), STATE);
        DUE.count("as it was", x, 1, 8800, 198, 0, 2);
        DUE.is("2 of 2", x.mend(2), 0);
        DUE.count("mended", x, 1, 8802, 198, 0, 0);
        DUE.is("1 of none", x.mend(1), STATE);
        DUE.is("0 of none", x.mend(0), 0);
        DUE.count("as it was", x, 1, 8802, 198, 0, 0);
    }

    private static void mendAllOfMany() {
        DUE.says("Promise 6: are mended, and come to THE STACK: how many are BROKEN still");
        ChairFront x = broken(9000);
        DUE.is("1 of 90", x.mend(1), 89);
        DUE.is("one in the stack", x.count(1), 1);
        DUE.is("88 of 89", x.mend(88), 1);
        DUE.is("the last", x.mend(1), 0);
        DUE.count("all mended", x, 1, 90, 8910, 0, 0);
        DUE.is("and can stand again", x.carry(NONE, 0, 90), 9000);
    }

    private static void allChairsAreSomewhere() {
        DUE.says("All chairs are in THE STACK, STANDING, LOST, or BROKEN");
        ChairFront x = new ChairFront(9000);
        for (int i = 0; i < 10; i++) {
            x.stretch(50 * i, i % 4);
            x.carry(NONE, i, 850);
            x.hire(i, 100, 12);
        }
        for (int i = 0; i < 11; i++) {
            x.hour(50 * i, i == 5 ? 100 : 0, 60, 10);
            x.mend(Math.min(3, x.count(4)));
            DUE.is("after hour " + i, x.count(1) + x.count(2) + x.count(3) + x.count(4), 9000);
        }
        DUE.is("the tide has been everywhere", x.count(2), 0);
    }
}
