/** Promises 7 to 9: hire, shift, ticket. */
final class TicketTest {
    private static final int NONE = ChairFront.NONE, BAD = ChairFront.BAD, STATE = ChairFront.STATE, FULL = ChairFront.FULL;
    private static final Due DUE = new Due();

    public static void main(String[] args) {
        hire();
        hireRefused();
        hireInWind();
        thirtyRun();
        priceAsHired();
        shiftByRules();
        shiftRefused();
        zoneOfTheHire();
        ticket();
        DUE.end();
    }

    /** Stretches 0 (zone 0), 1 (zone 0), 2 (zone 1) with 50 chairs each. */
    private static ChairFront shore() {
        ChairFront x = new ChairFront(1000);
        x.stretch(10, 0);
        x.stretch(20, 0);
        x.stretch(30, 1);
        for (int i = 0; i < 3; i++) {
            x.carry(NONE, i, 50);
        }
        return x;
    }

    private static void hire() {
        ChairFront x = shore();
        DUE.is("the first", x.hire(2, 1, 1), 0);
        DUE.is("the second", x.hire(2, 49, 12), 1);
        DUE.ticket("first", x, 0, 2, 1, 1, 10);
        DUE.ticket("second", x, 1, 2, 49, 12, 5880);
        DUE.told("hired", x, 2, 30, 1, 50, 0);
        DUE.count("hired", x, 3, 850, 150, 0, 0, 2, 2, 0, 5890, 0);
        DUE.is("none is free", x.hire(2, 1, 1), FULL);
        x.carry(NONE, 0, 50);
        DUE.is("a hundred", x.hire(0, 100, 12), 2);
        DUE.is("never anew", x.hire(1, 1, 1), 3);
    }

    private static void hireRefused() {
        ChairFront x = shore();
        DUE.is("no such stretch", x.hire(3, 1, 1), BAD);
        DUE.is("stretch -1", x.hire(-1, 1, 1), BAD);
        DUE.is("the stack", x.hire(NONE, 1, 1), BAD);
        DUE.is("no chairs", x.hire(0, 0, 1), BAD);
        DUE.is("101 chairs", x.hire(0, 101, 1), BAD);
        DUE.is("no hours", x.hire(0, 1, 0), BAD);
        DUE.is("13 hours", x.hire(0, 1, 13), BAD);
        DUE.is("one more than are free", x.hire(0, 51, 1), FULL);
        DUE.count("refused", x, 3, 850, 150, 0, 0, 0, 0, 0, 0, 0);
        DUE.is("all that are free", x.hire(0, 50, 1), 0);
    }

    private static void hireInWind() {
        ChairFront x = shore();
        x.rule(1, 0);
        DUE.is("no hour yet", x.hire(0, 1, 12), 0);
        x.rule(1, 40);
        x.hour(0, 40, 0, 0);
        DUE.is("wind not above stop", x.hire(0, 1, 12), 1);
        x.hour(0, 41, 0, 0);
        DUE.is("wind above stop", x.hire(0, 1, 1), STATE);
        DUE.is("STATE ahead of FULL", x.hire(0, 100, 1), STATE);
        DUE.is("BAD ahead of STATE", x.hire(0, 101, 1), BAD);
        x.rule(1, 41);
        DUE.is("stop as it is now", x.hire(0, 1, 1), 2);
        x.rule(1, 39);
        DUE.is("stop lower now", x.hire(0, 1, 1), STATE);
        x.hour(0, 101, 0, 0);
        DUE.is("a refused hour has no wind", x.hire(0, 1, 1), STATE);
        x.hour(0, 39, 0, 0);
        DUE.is("the latest hour's wind", x.hire(0, 1, 1), 3);
    }

    private static void thirtyRun() {
        ChairFront x = shore();
        for (int i = 0; i < 30; i++) {
            DUE.is("ticket " + i, x.hire(i % 3, 1, i == 7 ? 1 : 2), i);
        }
        DUE.is("30 run", x.hire(0, 1, 1), FULL);
        DUE.is("count(5)", x.count(5), 30);
        DUE.is("one ends", x.hour(0, 0, 0, 0), 29);
        DUE.is("it ended", x.ticket(7, 0), BAD);
        DUE.is("the 8th runs", x.ticket(8, 0), 2);
        DUE.is("its number is never used anew", x.hire(0, 2, 3), 30);
        DUE.is("30 run again", x.hire(0, 1, 1), FULL);
        DUE.ticket("ticket 30", x, 30, 0, 2, 3, 60);
        DUE.ticket("ticket 29", x, 29, 2, 1, 1, 20);
        DUE.is("all but one end", x.hour(0, 0, 0, 0), 1);
        DUE.ticket("ticket 30", x, 30, 0, 2, 2, 60);
        DUE.told("free again", x, 1, 20, 0, 50, 50);
        DUE.count("of 31", x, 3, 850, 150, 0, 0, 1, 31, 2);
    }

    private static void priceAsHired() {
        ChairFront x = shore();
        x.hire(0, 2, 3);
        x.rule(0, 100);
        DUE.ticket("the old price", x, 0, 0, 2, 3, 60);
        x.hire(0, 2, 3);
        DUE.ticket("the new price", x, 1, 0, 2, 3, 600);
        DUE.is("all paid", x.count(8), 660);
    }

    private static void shiftByRules() {
        ChairFront x = shore();
        x.hire(0, 10, 2);
        DUE.is("at first it holds in its place", x.shift(0, 1), STATE);
        DUE.is("hold zone", Due.rules(x, "hold zone;"), 1);
        DUE.is("in the zone", x.shift(0, 1), 1);
        DUE.told("left", x, 0, 10, 0, 50, 50);
        DUE.told("taken", x, 1, 20, 0, 50, 40);
        DUE.ticket("shifted", x, 0, 1, 10, 2, 200);
        DUE.is("out of the zone", x.shift(0, 2), STATE);
        DUE.is("hold any", Due.rules(x, "hold any;"), 1);
        DUE.is("anywhere", x.shift(0, 2), 1);
        DUE.is("hold place", Due.rules(x, "hold place;"), 1);
        DUE.is("back is another one, too", x.shift(0, 0), STATE);
        DUE.is("the last one told", Due.rules(x, "hold any;hold place;hold zone;hold any;"), 4);
        DUE.is("anywhere", x.shift(0, 0), 1);
        DUE.is("an empty text", x.rules(), 0);
        DUE.is("is as at first", x.shift(0, 1), STATE);
        x.rules();
        DUE.is("and so is another", x.shift(0, 1), STATE);
        DUE.is("the last one told", Due.rules(x, "hold any;hold zone;hold place;"), 3);
        DUE.is("its place alone", x.shift(0, 1), STATE);
        DUE.count("no coin for it", x, 3, 850, 150, 0, 0, 1, 1, 0, 200, 0);
    }

    private static void shiftRefused() {
        ChairFront x = shore();
        Due.rules(x, "hold any;");
        DUE.is("no ticket", x.shift(0, 1), BAD);
        x.hire(0, 10, 1);
        x.hire(1, 41, 12);
        DUE.is("ticket -1", x.shift(-1, 1), BAD);
        DUE.is("ticket 2", x.shift(2, 1), BAD);
        DUE.is("its own stretch", x.shift(0, 0), BAD);
        DUE.is("stretch 3", x.shift(0, 3), BAD);
        DUE.is("stretch -1", x.shift(0, -1), BAD);
        DUE.is("the stack", x.shift(0, NONE), BAD);
        DUE.is("nine are free", x.shift(0, 1), FULL);
        DUE.told("refused", x, 0, 10, 0, 50, 40);
        DUE.told("refused", x, 1, 20, 0, 50, 9);
        x.carry(NONE, 1, 1);
        DUE.is("ten are free", x.shift(0, 1), 1);
        DUE.told("none is free", x, 1, 20, 0, 51, 0);
        Due.rules(x, "");
        x.carry(2, NONE, 50);
        DUE.is("STATE ahead of FULL", x.shift(0, 2), STATE);
        x.hour(0, 0, 0, 0);
        DUE.is("it ended", x.shift(0, 0), BAD);
    }

    private static void zoneOfTheHire() {
        ChairFront x = shore();
        x.stretch(40, 1);
        x.carry(NONE, 3, 50);
        x.hire(0, 5, 2);
        Due.rules(x, "hold any;");
        x.shift(0, 2);
        Due.rules(x, "hold zone;");
        DUE.is("not the zone where it is used", x.shift(0, 3), STATE);
        DUE.is("the zone where it was hired", x.shift(0, 1), 1);
        x.hire(2, 5, 2);
        DUE.is("hired in zone 1, not to zone 0", x.shift(1, 0), STATE);
        DUE.is("hired in zone 1, to zone 1", x.shift(1, 3), 1);
    }

    private static void ticket() {
        ChairFront x = shore();
        DUE.is("none yet", x.ticket(0, 0), BAD);
        x.hire(1, 3, 2);
        DUE.ticket("hired", x, 0, 1, 3, 2, 60);
        DUE.is("what = 4", x.ticket(0, 4), BAD);
        DUE.is("what = -1", x.ticket(0, -1), BAD);
        DUE.is("ticket -1", x.ticket(-1, 0), BAD);
        DUE.is("ticket 1", x.ticket(1, 0), BAD);
        x.hour(0, 0, 0, 0);
        DUE.ticket("an hour later", x, 0, 1, 3, 1, 60);
        x.hour(0, 0, 0, 0);
        DUE.ticket("ended", x, 0, BAD, BAD, BAD, BAD);
    }
}
