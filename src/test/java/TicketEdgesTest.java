/** Each sentence of promises 7 to 9, and of what the terms say of TICKETS, that names a boundary. */
final class TicketEdgesTest {
    private static final int NONE = ChairFront.NONE, BAD = ChairFront.BAD, STATE = ChairFront.STATE, FULL = ChairFront.FULL;
    private static final int LEAST = Integer.MIN_VALUE, MOST = Integer.MAX_VALUE;
    private static final Due DUE = new Due();

    public static void main(String[] args) {
        hireOnAStretch();
        hireChairs();
        hireHours();
        hireNotSoManyFree();
        hireThirtyRun();
        hireBeforeAnyHour();
        hireInTheWindOfTheLatestHour();
        hireByStopAsItIsNow();
        numbersNeverAnew();
        paidLeastAndMost();
        paidAsItIsHired();
        endsByHours();
        endsByWind();
        shiftOfATicket();
        shiftOfAnEndedOne();
        shiftToAStretch();
        shiftToItsOwn();
        shiftUnderPlace();
        shiftUnderZone();
        shiftUnderAny();
        shiftNotSoManyFree();
        shiftAmongThirty();
        shiftInAStorm();
        ticketOfWhat();
        ticketBeforeAndAfter();
        DUE.end();
    }

    /** As many stretches as there are zones told, each with so many chairs. */
    private static ChairFront shore(int chairs, int... zones) {
        ChairFront x = new ChairFront(9000);
        for (int i = 0; i < zones.length; i++) {
            x.stretch(100, zones[i]);
            x.carry(NONE, i, chairs);
        }
        return x;
    }

    private static void hireOnAStretch() {
        DUE.says("Promise 7: BAD: STRETCH");
        ChairFront x = shore(10, 0, 1);
        for (int s : new int[] {-1, 2, 9, 10, NONE, LEAST, MOST}) {
            DUE.is("hire(" + s + ", 1, 1)", x.hire(s, 1, 1), BAD);
        }
        DUE.is("the last stretch", x.hire(1, 1, 1), 0);
        DUE.is("the first stretch", x.hire(0, 1, 1), 1);
    }

    private static void hireChairs() {
        DUE.says("Promise 7: BAD: chairs (1 to 100)");
        ChairFront x = shore(500, 0);
        for (int chairs : new int[] {0, -1, 101, LEAST, MOST}) {
            DUE.is("hire(0, " + chairs + ", 1)", x.hire(0, chairs, 1), BAD);
        }
        DUE.is("none is hired", x.told(0, 3), 500);
        DUE.is("1 chair", x.hire(0, 1, 1), 0);
        DUE.is("100 chairs", x.hire(0, 100, 1), 1);
        DUE.is("399 are free", x.told(0, 3), 399);
    }

    private static void hireHours() {
        DUE.says("Promise 7: BAD: hours (1 to 12)");
        ChairFront x = shore(500, 0);
        for (int hours : new int[] {0, -1, 13, LEAST, MOST}) {
            DUE.is("hire(0, 1, " + hours + ")", x.hire(0, 1, hours), BAD);
        }
        DUE.is("none is hired", x.told(0, 3), 500);
        DUE.is("1 hour", x.hire(0, 1, 1), 0);
        DUE.is("12 hours", x.hire(0, 1, 12), 1);
        DUE.is("one hour left", x.ticket(0, 2), 1);
        DUE.is("twelve hours left", x.ticket(1, 2), 12);
    }

    private static void hireNotSoManyFree() {
        DUE.says("Promise 7: FULL: .. or there are not so many FREE");
        ChairFront x = shore(20, 0, 0);
        DUE.is("21 of 20", x.hire(0, 21, 1), FULL);
        DUE.is("100 of 20", x.hire(0, 100, 1), FULL);
        DUE.is("20 of 20", x.hire(0, 20, 1), 0);
        DUE.is("1 of none", x.hire(0, 1, 1), FULL);
        DUE.is("chairs elsewhere are free", x.hire(1, 19, 1), 1);
        DUE.is("2 of 1", x.hire(1, 2, 1), FULL);
        DUE.is("1 of 1", x.hire(1, 1, 1), 2);
        DUE.count("three tickets", x, 2, 8960, 40, 0, 0, 3, 3, 0, 400, 0);
    }

    private static void hireThirtyRun() {
        DUE.says("30 run at most at once; Promise 7: FULL: 30 run");
        ChairFront x = shore(100, 0, 1);
        for (int i = 0; i < 30; i++) {
            DUE.is("ticket " + i, x.hire(i % 2, 1, i == 0 ? 1 : 12), i);
        }
        DUE.is("the 31st", x.hire(0, 1, 1), FULL);
        DUE.is("the 31st elsewhere", x.hire(1, 1, 1), FULL);
        DUE.count("thirty", x, 2, 8800, 200, 0, 0, 30, 30, 0);
        DUE.is("29 run then", x.hour(0, 0, 0, 0), 29);
        DUE.is("one more", x.hire(0, 2, 1), 30);
        DUE.is("30 run again", x.hire(0, 1, 1), FULL);
        for (int i = 1; i < 30; i++) {
            DUE.ticket("those that ran run on", x, i, i % 2, 1, 11, 120);
        }
        DUE.ticket("the new one", x, 30, 0, 2, 1, 20);
        DUE.is("the storm ends all", x.hour(0, 61, 0, 0), 0);
        x.hour(0, 0, 0, 0);
        for (int i = 31; i < 61; i++) {
            DUE.is("ticket " + i, x.hire(0, 1, 1), i);
        }
        DUE.is("30 run once more", x.hire(0, 1, 1), FULL);
    }

    private static void hireBeforeAnyHour() {
        DUE.says("Promise 7: STATE: the wind of the latest HOUR (there is none yet)");
        ChairFront x = shore(10, 0);
        x.rule(1, 0);
        DUE.is("with STOP 0", x.hire(0, 1, 1), 0);
        DUE.is("a refused hour", x.hour(0, 101, 0, 0), BAD);
        DUE.is("is none", x.hire(0, 1, 1), 1);
    }

    private static void hireInTheWindOfTheLatestHour() {
        DUE.says("Promise 7: STATE: the wind of the latest HOUR was above STOP");
        ChairFront x = shore(10, 0);
        x.hour(0, 60, 0, 0);
        DUE.is("as STOP", x.hire(0, 1, 1), 0);
        x.hour(0, 61, 0, 0);
        DUE.is("above STOP", x.hire(0, 1, 1), STATE);
        x.hour(0, 100, 0, 0);
        DUE.is("most wind", x.hire(0, 1, 1), STATE);
        x.hour(0, 60, 0, 0);
        DUE.is("only the latest hour counts", x.hire(0, 1, 1), 1);
    }

    private static void hireByStopAsItIsNow() {
        DUE.says("Promise 7: STATE: .. STOP (as it is now)");
        ChairFront x = shore(10, 0);
        x.hour(0, 50, 0, 0);
        x.rule(1, 50);
        DUE.is("STOP as the wind was", x.hire(0, 1, 1), 0);
        x.rule(1, 49);
        DUE.is("STOP one less", x.hire(0, 1, 1), STATE);
        DUE.is("those that run go on", x.count(5), 1);
        x.rule(1, 100);
        x.hour(0, 100, 0, 0);
        DUE.is("wind 100, STOP 100", x.hire(0, 1, 2), 1);
        x.rule(1, 0);
        DUE.is("wind 100, STOP 0", x.hire(0, 1, 1), STATE);
        x.hour(0, 0, 0, 0);
        DUE.is("wind 0, STOP 0", x.hire(0, 1, 1), 2);
        x.hour(0, 1, 0, 0);
        DUE.is("wind 1, STOP 0", x.hire(0, 1, 1), STATE);
    }

    /** As many hires as 512 calls have room for. */
    private static void numbersNeverAnew() {
        DUE.says("TICKETS have numbers as they come (0, 1, .., never anew)");
        ChairFront x = shore(1, 0);
        for (int i = 0; i < 250; i++) {
            DUE.is("ticket " + i, x.hire(0, 1, 1), i);
            DUE.is("it ends", x.hour(0, 0, 0, 0), 0);
        }
        DUE.is("ever", x.count(6), 250);
        DUE.is("the first", x.ticket(0, 0), BAD);
        DUE.is("the last", x.ticket(249, 0), BAD);
    }

    private static void paidLeastAndMost() {
        DUE.says("PAID: PRICE times chairs times hours");
        ChairFront x = shore(3000, 0);
        x.rule(0, 1);
        DUE.is("least", x.ticket(x.hire(0, 1, 1), 3), 1);
        x.rule(0, 100);
        DUE.is("most", x.ticket(x.hire(0, 100, 12), 3), 120000);
        DUE.is("all paid", x.count(8), 120001);
        for (int i = 2; i < 30; i++) {
            x.hire(0, 100, 12);
        }
        DUE.is("paid by thirty", x.count(8), 1 + 29 * 120000);
    }

    private static void paidAsItIsHired() {
        DUE.says("PAID: .. as it is hired");
        ChairFront x = shore(100, 0);
        x.hire(0, 100, 12);
        x.rule(0, 100);
        x.hour(0, 0, 0, 10);
        DUE.ticket("one broke, an hour went, the price rose", x, 0, 0, 99, 11, 12000);
        DUE.is("all paid", x.count(8), 12000);
    }

    private static void endsByHours() {
        DUE.says("A TICKET that ends leaves its chairs FREE (hours)");
        ChairFront x = shore(10, 0);
        x.hire(0, 10, 1);
        DUE.told("hired", x, 0, 100, 0, 10, 0);
        x.hour(0, 0, 0, 0);
        DUE.told("free", x, 0, 100, 0, 10, 10);
        DUE.is("hired anew", x.hire(0, 10, 1), 1);
    }

    private static void endsByWind() {
        DUE.says("A TICKET that ends leaves its chairs FREE (wind)");
        ChairFront x = shore(10, 0);
        x.hire(0, 10, 12);
        x.hour(0, 61, 0, 0);
        DUE.told("free", x, 0, 100, 0, 10, 10);
        DUE.is("carried away", x.carry(0, NONE, 10), 9000);
    }

    private static void shiftOfATicket() {
        DUE.says("Promise 8: BAD: TICKET");
        ChairFront x = shore(10, 0, 0);
        Due.rules(x, "hold any;");
        DUE.is("before one", x.shift(0, 1), BAD);
        x.hire(0, 1, 1);
        for (int t : new int[] {-1, 1, 29, 30, NONE, LEAST, MOST}) {
            DUE.is("shift(" + t + ", 1)", x.shift(t, 1), BAD);
        }
        DUE.is("shift(0, 1)", x.shift(0, 1), 1);
    }

    private static void shiftOfAnEndedOne() {
        DUE.says("Promise 8: BAD: TICKET (it ended, too)");
        ChairFront x = shore(10, 0, 0);
        Due.rules(x, "hold any;");
        x.hire(0, 1, 1);
        x.hire(0, 1, 2);
        x.hour(0, 0, 0, 0);
        DUE.is("ended by hours", x.shift(0, 1), BAD);
        DUE.is("that runs", x.shift(1, 1), 1);
        x.hour(0, 61, 0, 0);
        DUE.is("ended by wind", x.shift(1, 0), BAD);
        x.hour(0, 0, 0, 0);
        x.hire(0, 1, 5);
        x.hour(100, 0, 0, 0);
        x.carry(NONE, 1, 5);
        DUE.is("ended by the tide", x.shift(2, 1), BAD);
    }

    private static void shiftToAStretch() {
        DUE.says("Promise 8: BAD: STRETCH");
        ChairFront x = shore(10, 0, 0);
        Due.rules(x, "hold any;");
        x.hire(0, 1, 1);
        for (int s : new int[] {-1, 2, 9, 10, NONE, LEAST, MOST}) {
            DUE.is("shift(0, " + s + ")", x.shift(0, s), BAD);
        }
        DUE.is("it is where it was", x.ticket(0, 0), 0);
        DUE.is("the last stretch", x.shift(0, 1), 1);
    }

    private static void shiftToItsOwn() {
        DUE.says("Promise 8: BAD: STRETCH (its own one, too)");
        ChairFront x = shore(10, 0, 0);
        Due.rules(x, "hold any;");
        x.hire(0, 1, 1);
        DUE.is("where it was hired", x.shift(0, 0), BAD);
        DUE.is("to another one", x.shift(0, 1), 1);
        DUE.is("its own one now", x.shift(0, 1), BAD);
        DUE.is("back, which is another one now", x.shift(0, 0), 1);
        DUE.told("left", x, 1, 100, 0, 10, 10);
        DUE.told("taken", x, 0, 100, 0, 10, 9);
    }

    private static void shiftUnderPlace() {
        DUE.says("'place', as at first: where it is alone, so on no other STRETCH from now on");
        ChairFront x = shore(10, 0, 0, 1);
        x.hire(0, 1, 12);
        DUE.is("at first, in the zone", x.shift(0, 1), STATE);
        DUE.is("at first, out of the zone", x.shift(0, 2), STATE);
        Due.rules(x, "hold any;");
        DUE.is("under 'any'", x.shift(0, 2), 1);
        Due.rules(x, "hold place;");
        DUE.is("not back", x.shift(0, 0), STATE);
        DUE.is("not on", x.shift(0, 1), STATE);
        DUE.is("it is where it is", x.ticket(0, 0), 2);
        Due.rules(x, "hold any;");
        Due.rules(x, "rain 5 part 5;");
        DUE.is("a text that tells no hold is as at first", x.shift(0, 0), STATE);
    }

    private static void shiftUnderZone() {
        DUE.says("'zone': on those of the ZONE of that STRETCH on which it was hired");
        ChairFront x = shore(10, 0, 1, 2, 3, 0, 1, 2, 3);
        for (int i = 0; i < 4; i++) {
            x.hire(i, 1, 12);
        }
        Due.rules(x, "hold zone;");
        for (int t = 0; t < 4; t++) {
            for (int s = 0; s < 4; s++) {
                DUE.is("ticket " + t + " to stretch " + s, x.shift(t, s), s == t ? BAD : STATE);
            }
            DUE.is("ticket " + t + " in its zone", x.shift(t, t + 4), 1);
            DUE.is("ticket " + t + " and back", x.shift(t, t), 1);
        }
        Due.rules(x, "hold any;");
        x.shift(0, 1);
        Due.rules(x, "hold zone;");
        DUE.is("not the zone where it is", x.shift(0, 5), STATE);
        DUE.is("the zone where it was hired", x.shift(0, 4), 1);
    }

    private static void shiftUnderAny() {
        DUE.says("where a TICKET may be used (the last one told)");
        ChairFront x = shore(10, 0, 1, 2, 3);
        x.hire(0, 1, 12);
        Due.rules(x, "hold place;hold zone;hold any;");
        for (int s : new int[] {1, 2, 3, 0}) {
            DUE.is("to " + s, x.shift(0, s), 1);
        }
        Due.rules(x, "hold any;hold place;hold zone;");
        DUE.is("'zone' last", x.shift(0, 1), STATE);
        Due.rules(x, "hold any;hold zone;rain 1 part 1;hold place;rent 1 part 1;");
        DUE.is("'place' last", x.shift(0, 1), STATE);
        Due.rules(x, "hold zone;hold any;hold place;");
        DUE.is("'place' behind 'any'", x.shift(0, 1), STATE);
        Due.rules(x, "hold place;rent 1 part 1;hold any;rain 1 part 1;");
        DUE.is("'any' last", x.shift(0, 1), 1);
    }

    private static void shiftNotSoManyFree() {
        DUE.says("Promise 8: FULL: there are not so many FREE");
        ChairFront x = shore(10, 0, 0);
        Due.rules(x, "hold any;");
        x.hire(0, 5, 12);
        x.hire(1, 6, 12);
        DUE.is("5 to 4 free ones", x.shift(0, 1), FULL);
        DUE.is("6 to 5 free ones", x.shift(1, 0), FULL);
        DUE.told("as it was", x, 0, 100, 0, 10, 5);
        DUE.told("as it was", x, 1, 100, 0, 10, 4);
        x.carry(NONE, 1, 1);
        DUE.is("5 to 5 free ones", x.shift(0, 1), 1);
        DUE.told("left", x, 0, 100, 0, 10, 10);
        DUE.told("taken", x, 1, 100, 0, 11, 0);
        x.carry(0, NONE, 10);
        DUE.is("to where none stands", x.shift(0, 0), FULL);
    }

    private static void shiftAmongThirty() {
        DUE.says("Promise 8: 30 that run are no hindrance");
        ChairFront x = shore(40, 0, 0);
        Due.rules(x, "hold zone;");
        for (int i = 0; i < 30; i++) {
            x.hire(0, 1, 12);
        }
        DUE.is("the first", x.shift(0, 1), 1);
        DUE.is("the last", x.shift(29, 1), 1);
        DUE.told("left", x, 0, 100, 0, 40, 12);
        DUE.told("taken", x, 1, 100, 0, 40, 38);
    }

    private static void shiftInAStorm() {
        DUE.says("Promise 8: STATE: it does not hold there (and for no wind)");
        ChairFront x = shore(40, 0, 0);
        Due.rules(x, "hold zone;");
        x.hour(0, 50, 0, 0);
        x.hire(0, 1, 2);
        x.rule(1, 49);
        DUE.is("STOP is below the latest wind", x.hire(0, 1, 1), STATE);
        DUE.is("a shift is no hire", x.shift(0, 1), 1);
    }

    private static void ticketOfWhat() {
        DUE.says("Promise 9: 0 STRETCH, 1 chairs, 2 hours left, 3 what is PAID");
        ChairFront x = shore(40, 0, 0);
        x.hire(1, 7, 3);
        DUE.ticket("all", x, 0, 1, 7, 3, 210);
        for (int what : new int[] {-1, 4, LEAST, MOST, NONE}) {
            DUE.is("ticket(0, " + what + ")", x.ticket(0, what), BAD);
        }
    }

    private static void ticketBeforeAndAfter() {
        DUE.says("Promise 9: BAD (it ended, too)");
        ChairFront x = shore(40, 0, 0);
        DUE.ticket("before", x, 0, BAD, BAD, BAD, BAD);
        x.hire(1, 7, 1);
        for (int t : new int[] {-1, 1, 29, 30, LEAST, MOST, NONE}) {
            DUE.is("ticket(" + t + ", 0)", x.ticket(t, 0), BAD);
        }
        x.hour(0, 0, 0, 0);
        DUE.ticket("after", x, 0, BAD, BAD, BAD, BAD);
        x.hire(0, 5, 4);
        DUE.ticket("not in its place", x, 0, BAD, BAD, BAD, BAD);
        DUE.ticket("the next", x, 1, 0, 5, 4, 200);
    }
}
