/** Promises 1 to 6: a new object, stretch, carry, told, rule, mend. */
final class ShoreTest {
    private static final int NONE = ChairFront.NONE, BAD = ChairFront.BAD, STATE = ChairFront.STATE, FULL = ChairFront.FULL;
    private static final Due DUE = new Due();

    public static void main(String[] args) {
        newObject();
        stretch();
        carry();
        carryRefused();
        told();
        rule();
        mend();
        DUE.end();
    }

    private static void newObject() {
        int[][] stacks = {{0, 0}, {1, 1}, {-1, 0}, {Integer.MIN_VALUE, 0}, {8999, 8999}, {9000, 9000}, {9001, 9000},
            {Integer.MAX_VALUE, 9000}};
        for (int[] s : stacks) {
            ChairFront x = new ChairFront(s[0]);
            DUE.count("new ChairFront(" + s[0] + ")", x, 0, s[1], 0, 0, 0, 0, 0, 0, 0, 0);
        }
        ChairFront x = new ChairFront(5);
        DUE.is("fault() of a new one", x.fault(), 0);
        DUE.is("trace(0) of a new one", x.trace(0), NONE);
        DUE.is("rules() of a new one", x.rules(), 0);
        DUE.is("rent of a new one", x.rent(1000), 0);
    }

    private static void stretch() {
        ChairFront x = new ChairFront(5);
        DUE.is("stretch(-1, 0)", x.stretch(-1, 0), BAD);
        DUE.is("stretch(501, 0)", x.stretch(501, 0), BAD);
        DUE.is("stretch(0, -1)", x.stretch(0, -1), BAD);
        DUE.is("stretch(0, 4)", x.stretch(0, 4), BAD);
        DUE.is("count(0)", x.count(0), 0);
        DUE.is("stretch(0, 0)", x.stretch(0, 0), 0);
        DUE.is("stretch(500, 3)", x.stretch(500, 3), 1);
        for (int i = 2; i < 10; i++) {
            DUE.is("stretch(7, 2)", x.stretch(7, 2), i);
        }
        DUE.is("the 11th stretch", x.stretch(7, 2), FULL);
        DUE.is("BAD goes ahead of FULL", x.stretch(7, 4), BAD);
        DUE.is("count(0)", x.count(0), 10);
        DUE.told("the lowest", x, 0, 0, 0, 0, 0, 0, 0);
        DUE.told("the highest", x, 1, 500, 3, 0, 0, 0, 0);
        DUE.told("the last", x, 9, 7, 2, 0, 0, 0, 0);
    }

    private static void carry() {
        ChairFront x = new ChairFront(100);
        x.stretch(10, 0);
        x.stretch(20, 1);
        DUE.is("to a stretch", x.carry(NONE, 0, 60), 60);
        DUE.is("once more", x.carry(NONE, 0, 10), 70);
        DUE.is("none of them", x.carry(NONE, 1, 0), 0);
        DUE.is("from stretch to stretch", x.carry(0, 1, 30), 30);
        DUE.is("to the stack", x.carry(1, NONE, 5), 35);
        DUE.is("none to the stack", x.carry(1, NONE, 0), 35);
        DUE.count("carried", x, 2, 35, 65, 0, 0, 0, 0);
        DUE.told("carried", x, 0, 10, 0, 40, 40);
        DUE.told("carried", x, 1, 20, 1, 25, 25);
        DUE.is("all of the stack", x.carry(NONE, 1, 35), 60);
        DUE.count("carried", x, 2, 0, 100);
    }

    private static void carryRefused() {
        ChairFront x = new ChairFront(100);
        x.stretch(10, 0);
        x.stretch(20, 1);
        x.carry(NONE, 0, 50);
        DUE.is("no such from", x.carry(2, 0, 1), BAD);
        DUE.is("from -1", x.carry(-1, 0, 1), BAD);
        DUE.is("no such to", x.carry(0, 2, 1), BAD);
        DUE.is("to -1", x.carry(0, -1, 1), BAD);
        DUE.is("from BAD itself", x.carry(BAD, 0, 1), BAD);
        DUE.is("the same stretch", x.carry(0, 0, 1), BAD);
        DUE.is("the stack to the stack", x.carry(NONE, NONE, 1), BAD);
        DUE.is("n = -1", x.carry(NONE, 0, -1), BAD);
        DUE.is("n = 9001", x.carry(NONE, 0, 9001), BAD);
        DUE.is("n = 9000, too many", x.carry(NONE, 0, 9000), STATE);
        DUE.is("one more than the stack has", x.carry(NONE, 0, 51), STATE);
        DUE.is("one more than stand", x.carry(0, 1, 51), STATE);
        x.hire(0, 20, 1);
        DUE.is("one that is hired", x.carry(0, NONE, 31), STATE);
        DUE.told("refused", x, 0, 10, 0, 50, 30);
        DUE.count("refused", x, 2, 50, 50);
        DUE.is("all that are free", x.carry(0, NONE, 30), 80);
        DUE.told("only hired ones", x, 0, 10, 0, 20, 0);
    }

    private static void told() {
        ChairFront x = new ChairFront(100);
        DUE.is("no stretch", x.told(0, 0), BAD);
        x.stretch(123, 2);
        x.carry(NONE, 0, 90);
        x.hire(0, 40, 2);
        x.unpaid(0, 77, 5);
        x.hour(0, 0, 0, 3);
        DUE.told("all of it", x, 0, 123, 2, 90, 50, 270, 77);
        DUE.is("told(0, 6)", x.told(0, 6), BAD);
        DUE.is("told(0, -1)", x.told(0, -1), BAD);
        DUE.is("told(-1, 0)", x.told(-1, 0), BAD);
        DUE.is("told(1, 0)", x.told(1, 0), BAD);
        DUE.is("told(NONE, 0)", x.told(NONE, 0), BAD);
    }

    private static void rule() {
        ChairFront x = new ChairFront(100);
        DUE.is("price at first", x.rule(0, 100), 10);
        DUE.is("price 0", x.rule(0, 0), BAD);
        DUE.is("price 101", x.rule(0, 101), BAD);
        DUE.is("price 1", x.rule(0, 1), 100);
        DUE.is("price as before", x.rule(0, 7), 1);
        DUE.is("stop at first", x.rule(1, 100), 60);
        DUE.is("stop -1", x.rule(1, -1), BAD);
        DUE.is("stop 101", x.rule(1, 101), BAD);
        DUE.is("stop 0", x.rule(1, 0), 100);
        DUE.is("stop as before", x.rule(1, 50), 0);
        DUE.is("what = 2", x.rule(2, 5), BAD);
        DUE.is("what = -1", x.rule(-1, 5), BAD);
        DUE.is("price stays", x.rule(0, 7), 7);
        DUE.is("stop stays", x.rule(1, 50), 50);
        x.rules();
        DUE.is("a text does not tell the price", x.rule(0, 7), 7);
        DUE.is("a text does not tell the stop", x.rule(1, 50), 50);
    }

    private static void mend() {
        ChairFront x = new ChairFront(500);
        x.stretch(10, 0);
        x.carry(NONE, 0, 500);
        x.hour(0, 0, 0, 10);
        DUE.count("five broke", x, 1, 0, 495, 0, 5);
        DUE.is("mend(-1)", x.mend(-1), BAD);
        DUE.is("mend(9001)", x.mend(9001), BAD);
        DUE.is("mend(9000)", x.mend(9000), STATE);
        DUE.is("mend(6)", x.mend(6), STATE);
        DUE.is("mend(0)", x.mend(0), 5);
        DUE.is("mend(2)", x.mend(2), 3);
        DUE.count("two mended", x, 1, 2, 495, 0, 3);
        DUE.is("mend(3)", x.mend(3), 0);
        DUE.is("mend(1)", x.mend(1), STATE);
        DUE.count("all mended", x, 1, 5, 495, 0, 0);
    }
}
