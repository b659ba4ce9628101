/** Each sentence of promise 10, and of AN HOUR in the terms, that names a boundary. */
final class HourEdgesTest {
    private static final int NONE = ChairFront.NONE, BAD = ChairFront.BAD, STATE = ChairFront.STATE, FULL = ChairFront.FULL;
    private static final int LEAST = Integer.MIN_VALUE, MOST = Integer.MAX_VALUE;
    private static final Due DUE = new Due();

    public static void main(String[] args) {
        levels();
        winds();
        minutesOfRain();
        suns();
        hourOfAnEmptyShore();
        hoursAreCounted();
        manyHours();
        heightNotAboveTheLevel();
        theLowestAndTheHighest();
        theTideEndsTickets();
        theTideLeavesWearAndUnpaid();
        theTideGivesNothingBack();
        windAboveStop();
        windAtTheEndsOfStop();
        backForHoursLeft();
        backByPriceAsHired();
        backForChairsYetThere();
        backOfTheShifted();
        rainAsMuchAsTold();
        rainAtTheEndsOfItsMinutes();
        rainPartsNoneAndAll();
        rainIsCut();
        rainOfTheFirstLineThatFits();
        rainOfFiveLines();
        rainWithoutLines();
        rainForTicketsThatRun();
        rainInTheLastHour();
        wearByChairsStanding();
        wearAtAThousand();
        wearAsOftenAsItHasThem();
        wearStaysBelowAThousand();
        freeChairsFirst();
        greatestNumberThere();
        greatestNumberAfterAShift();
        endsWithNone();
        brokenInItsLastHour();
        hoursToNone();
        DUE.end();
    }

    /** Stretches of height 100, 200, .. with so many chairs. */
    private static ChairFront shore(int... standing) {
        ChairFront x = new ChairFront(9000);
        for (int i = 0; i < standing.length; i++) {
            x.stretch(100 * (i + 1), i % 4);
            x.carry(NONE, i, standing[i]);
        }
        return x;
    }

    private static void levels() {
        DUE.says("Promise 10: BAD: level (0 to 1000)");
        ChairFront x = shore(5);
        for (int level : new int[] {-1, 1001, LEAST, MOST, NONE}) {
            DUE.is("level " + level, x.hour(level, 0, 0, 0), BAD);
        }
        DUE.is("no hour", x.count(7), 0);
        DUE.is("all stand", x.count(2), 5);
        DUE.is("level 0", x.hour(0, 0, 0, 0), 0);
        DUE.is("level 1000", x.hour(1000, 0, 0, 0), 0);
        DUE.is("two hours", x.count(7), 2);
        DUE.is("all lost", x.count(3), 5);
    }

    private static void winds() {
        DUE.says("Promise 10: BAD: wind (0 to 100)");
        ChairFront x = shore(5);
        x.hire(0, 5, 12);
        for (int wind : new int[] {-1, 101, LEAST, MOST, NONE}) {
            DUE.is("wind " + wind, x.hour(0, wind, 0, 0), BAD);
        }
        DUE.count("no hour", x, 1, 8995, 5, 0, 0, 1, 1, 0, 600, 0);
        DUE.is("wind 0", x.hour(0, 0, 0, 0), 1);
        DUE.is("wind 100", x.hour(0, 100, 0, 0), 0);
        DUE.is("two hours", x.count(7), 2);
    }

    private static void minutesOfRain() {
        DUE.says("minutes of rain (0 to 60)");
        ChairFront x = shore(5);
        Due.rules(x, "rain 1 part 100;");
        x.hire(0, 5, 12);
        for (int rain : new int[] {-1, 61, LEAST, MOST, NONE}) {
            DUE.is("rain " + rain, x.hour(0, 0, rain, 0), BAD);
        }
        DUE.count("no hour", x, 1, 8995, 5, 0, 0, 1, 1, 0, 600, 0);
        DUE.is("rain 0", x.hour(0, 0, 0, 0), 1);
        DUE.is("nothing back", x.count(9), 0);
        DUE.is("rain 60", x.hour(0, 0, 60, 0), 1);
        DUE.is("back", x.count(9), 50);
    }

    private static void suns() {
        DUE.says("sun (0 to 10)");
        ChairFront x = shore(99);
        for (int sun : new int[] {-1, 11, LEAST, MOST, NONE}) {
            DUE.is("sun " + sun, x.hour(0, 0, 0, sun), BAD);
        }
        DUE.is("no hour", x.count(7), 0);
        DUE.is("no wear", x.told(0, 4), 0);
        DUE.is("sun 0", x.hour(0, 0, 0, 0), 0);
        DUE.is("no wear by sun 0", x.told(0, 4), 0);
        DUE.is("sun 10", x.hour(0, 0, 0, 10), 0);
        DUE.is("wear by sun 10", x.told(0, 4), 990);
    }

    private static void hourOfAnEmptyShore() {
        DUE.says("Promise 10: how many TICKETS run then (none is there)");
        ChairFront x = new ChairFront(0);
        DUE.is("the least hour", x.hour(0, 0, 0, 0), 0);
        DUE.is("the greatest hour", x.hour(1000, 100, 60, 10), 0);
        DUE.count("two hours", x, 0, 0, 0, 0, 0, 0, 0, 2, 0, 0);
    }

    private static void hoursAreCounted() {
        DUE.says("Promise 10: how many TICKETS run then");
        ChairFront x = shore(100);
        for (int hours = 1; hours <= 12; hours++) {
            x.hire(0, 1, hours);
        }
        for (int left = 11; left >= 0; left--) {
            DUE.is("so many run", x.hour(0, 0, 0, 0), left);
            DUE.is("and are counted", x.count(5), left);
        }
        DUE.is("one more hour", x.hour(0, 0, 0, 0), 0);
        DUE.is("hours", x.count(7), 13);
    }

    /** Within 512 calls hours are never refused for their number; 5000 lie beyond what is promised. */
    private static void manyHours() {
        DUE.says("Promise 10: STATE: 5000 went");
        ChairFront x = new ChairFront(1);
        for (int i = 0; i < 511; i++) {
            x.hour(0, 0, 0, 0);
        }
        DUE.is("the 512th call", x.count(7), 511);
        ChairFront y = new ChairFront(1);
        for (int i = 0; i < 4999; i++) {
            y.hour(0, 0, 0, 0);
        }
        DUE.is("the 5000th", y.hour(0, 0, 0, 0), 0);
        DUE.is("the 5001st", y.hour(0, 61, 0, 0), STATE);
        DUE.is("5000 went", y.count(7), 5000);
        y.stretch(0, 0);
        y.carry(NONE, 0, 1);
        DUE.is("refused, it left no wind", y.hire(0, 1, 1), 0);
    }

    private static void heightNotAboveTheLevel() {
        DUE.says("1 of STRETCHES whose HEIGHT is not above the level .. all chairs are LOST");
        ChairFront x = shore(10, 20, 30);
        x.hour(99, 0, 0, 0);
        DUE.count("a level of 99", x, 3, 8940, 60, 0);
        x.hour(100, 0, 0, 0);
        DUE.count("a level of 100", x, 3, 8940, 50, 10);
        x.hour(199, 0, 0, 0);
        DUE.count("a level of 199", x, 3, 8940, 50, 10);
        x.hour(201, 0, 0, 0);
        DUE.count("a level of 201", x, 3, 8940, 30, 30);
        x.hour(299, 0, 0, 0);
        DUE.count("a level of 299", x, 3, 8940, 30, 30);
        x.hour(300, 0, 0, 0);
        DUE.count("a level of 300", x, 3, 8940, 0, 60);
        x.hour(1000, 0, 0, 0);
        DUE.count("nothing more to take", x, 3, 8940, 0, 60);
    }

    private static void theLowestAndTheHighest() {
        DUE.says("HEIGHT 0 to 500; level (0 to 1000)");
        ChairFront x = new ChairFront(100);
        x.stretch(0, 0);
        x.stretch(1, 0);
        x.stretch(500, 0);
        for (int i = 0; i < 3; i++) {
            x.carry(NONE, i, 10);
        }
        x.hour(0, 0, 0, 0);
        DUE.count("height 0, level 0", x, 3, 70, 20, 10);
        x.hour(499, 0, 0, 0);
        DUE.count("height 500, level 499", x, 3, 70, 10, 20);
        x.hour(500, 0, 0, 0);
        DUE.count("height 500, level 500", x, 3, 70, 0, 30);
    }

    private static void theTideEndsTickets() {
        DUE.says("1 of STRETCHES whose HEIGHT is not above the level TICKETS end");
        ChairFront x = shore(10, 20);
        x.hire(0, 10, 12);
        x.hire(1, 5, 12);
        DUE.is("below both", x.hour(99, 0, 0, 0), 2);
        DUE.is("not below the first", x.hour(100, 0, 0, 0), 1);
        DUE.ticket("ended", x, 0, BAD, BAD, BAD, BAD);
        DUE.ticket("runs", x, 1, 1, 5, 10, 600);
        DUE.told("hired ones are lost too", x, 0, 100, 0, 0, 0);
        DUE.is("what the sea took is free of tickets", x.carry(NONE, 0, 4), 4);
        DUE.told("new ones are free", x, 0, 100, 0, 4, 4);
    }

    private static void theTideLeavesWearAndUnpaid() {
        DUE.says("1 .. all chairs are LOST (and nothing else)");
        ChairFront x = shore(99);
        x.unpaid(0, 12, 3);
        x.hour(0, 0, 0, 10);
        x.hour(100, 0, 0, 10);
        DUE.told("taken", x, 0, 100, 0, 0, 0, 990, 12);
        DUE.is("bare", x.kind(0), 3);
        x.carry(NONE, 0, 1);
        x.hour(0, 0, 0, 10);
        DUE.told("the wear goes on", x, 0, 100, 0, 0, 0, 0, 12);
        DUE.count("it broke", x, 1, 8900, 0, 99, 1);
    }

    private static void theTideGivesNothingBack() {
        DUE.says("In this order: 1 .., 2 .., 3 .. (a TICKET that the tide ended is not there for wind and rain)");
        ChairFront x = shore(10, 10);
        Due.rules(x, "rain 1 part 100;");
        x.hire(0, 10, 12);
        x.hour(100, 0, 60, 10);
        DUE.is("tide and rain", x.count(9), 0);
        x.carry(NONE, 0, 10);
        x.hire(0, 10, 12);
        x.hire(1, 1, 5);
        x.hour(100, 61, 60, 10);
        DUE.is("tide, wind and rain", x.count(9), 50);
    }

    private static void windAboveStop() {
        DUE.says("2 With wind above STOP all TICKETS end");
        ChairFront x = shore(10, 10);
        x.hire(0, 10, 12);
        x.hire(1, 10, 12);
        DUE.is("as STOP", x.hour(0, 60, 0, 0), 2);
        DUE.is("nothing back", x.count(9), 0);
        DUE.is("one above", x.hour(0, 61, 0, 0), 0);
        DUE.is("back", x.count(9), 2 * 1100);
    }

    private static void windAtTheEndsOfStop() {
        DUE.says("STOP: 0 to 100; wind (0 to 100)");
        ChairFront x = shore(10);
        x.rule(1, 0);
        x.hire(0, 1, 12);
        DUE.is("wind 0, STOP 0", x.hour(0, 0, 0, 0), 1);
        DUE.is("wind 1, STOP 0", x.hour(0, 1, 0, 0), 0);
        x.rule(1, 100);
        x.hire(0, 1, 12);
        DUE.is("wind 100, STOP 100", x.hour(0, 100, 0, 0), 1);
        x.rule(1, 99);
        DUE.is("wind 99, STOP 99", x.hour(0, 99, 0, 0), 1);
        DUE.is("wind 100, STOP 99", x.hour(0, 100, 0, 0), 0);
    }

    private static void backForHoursLeft() {
        DUE.says("2 .. what they paid for hours left is BACK");
        for (int gone = 0; gone <= 3; gone++) {
            ChairFront x = shore(10);
            x.hire(0, 2, 3);
            for (int i = 0; i < gone; i++) {
                x.hour(0, 0, 0, 0);
            }
            x.hour(0, 61, 0, 0);
            DUE.is("back when " + gone + " of 3 hours went", x.count(9), 20 * (3 - gone));
        }
        ChairFront most = shore(3000);
        most.rule(0, 100);
        for (int i = 0; i < 30; i++) {
            most.hire(0, 100, 12);
        }
        most.hour(0, 100, 60, 0);
        DUE.is("the most of all", most.count(9), 30 * 120000);
        DUE.is("nothing is left", most.rent(NONE), 0);
    }

    private static void backByPriceAsHired() {
        DUE.says("2 .. (PRICE as it was hired ..)");
        ChairFront x = shore(10);
        x.rule(0, 1);
        x.hire(0, 1, 12);
        x.rule(0, 100);
        x.hire(0, 1, 12);
        x.rule(0, 50);
        x.hour(0, 61, 0, 0);
        DUE.is("1 and 100", x.count(9), 12 + 1200);
    }

    private static void backForChairsYetThere() {
        DUE.says("2 .. for chairs that they have yet (.. a BROKEN one is not paid back)");
        ChairFront x = shore(100);
        x.hire(0, 98, 12);
        x.hire(0, 2, 12);
        x.hour(0, 0, 0, 10);
        DUE.is("one broke", x.ticket(1, 1), 1);
        x.hour(0, 61, 0, 10);
        DUE.is("98 and 1 for 11 hours", x.count(9), 99 * 110);
        DUE.is("paid is as it was", x.count(8), 100 * 120);
    }

    private static void backOfTheShifted() {
        DUE.says("1 of STRETCHES .. TICKETS end (where they are used, not where they were hired)");
        ChairFront x = shore(10, 10);
        Due.rules(x, "hold any;");
        x.hire(0, 5, 12);
        x.hire(1, 5, 12);
        x.shift(0, 1);
        x.shift(1, 0);
        DUE.is("the tide takes the second", x.hour(100, 0, 0, 0), 1);
        DUE.ticket("the first is dry", x, 0, 1, 5, 11, 600);
        DUE.ticket("the second is gone", x, 1, BAD, BAD, BAD, BAD);
    }

    private static int backOfRain(String rules, int price, int chairs, int minutes) {
        ChairFront x = shore(100);
        DUE.is("lines of " + rules, Due.rules(x, rules) >= 0 ? 1 : 0, 1);
        x.rule(0, price);
        x.hire(0, chairs, 12);
        x.hour(0, 0, minutes, 0);
        return x.count(9);
    }

    private static void rainAsMuchAsTold() {
        DUE.says("3 .. if the rain is as much as told or more");
        DUE.is("one less", backOfRain("rain 20 part 50;", 10, 10, 19), 0);
        DUE.is("as much", backOfRain("rain 20 part 50;", 10, 10, 20), 50);
        DUE.is("one more", backOfRain("rain 20 part 50;", 10, 10, 21), 50);
        DUE.is("all the hour", backOfRain("rain 20 part 50;", 10, 10, 60), 50);
    }

    private static void rainAtTheEndsOfItsMinutes() {
        DUE.says("from so many minutes on (1 to 60)");
        DUE.is("from 1, none", backOfRain("rain 1 part 50;", 10, 10, 0), 0);
        DUE.is("from 1, one", backOfRain("rain 1 part 50;", 10, 10, 1), 50);
        DUE.is("from 60, 59", backOfRain("rain 60 part 50;", 10, 10, 59), 0);
        DUE.is("from 60, 60", backOfRain("rain 60 part 50;", 10, 10, 60), 50);
    }

    private static void rainPartsNoneAndAll() {
        DUE.says("a part by 100 (0 to 100)");
        DUE.is("part 0", backOfRain("rain 1 part 0;", 100, 100, 60), 0);
        DUE.is("part 1", backOfRain("rain 1 part 1;", 100, 100, 60), 100);
        DUE.is("part 99", backOfRain("rain 1 part 99;", 100, 100, 60), 9900);
        DUE.is("part 100", backOfRain("rain 1 part 100;", 100, 100, 60), 10000);
    }

    private static void rainIsCut() {
        DUE.says("3 .. times the part told, by 100, cut");
        DUE.is("0.99", backOfRain("rain 1 part 99;", 1, 1, 1), 0);
        DUE.is("1.00", backOfRain("rain 1 part 100;", 1, 1, 1), 1);
        DUE.is("1.98", backOfRain("rain 1 part 99;", 2, 1, 1), 1);
        DUE.is("0.50", backOfRain("rain 1 part 50;", 1, 1, 1), 0);
        DUE.is("99 parts of 100", backOfRain("rain 1 part 99;", 1, 100, 1), 99);
        DUE.is("0.99 of 99 chairs", backOfRain("rain 1 part 1;", 1, 99, 1), 0);
        DUE.is("1.00 of 100 chairs", backOfRain("rain 1 part 1;", 1, 100, 1), 1);
        ChairFront x = shore(100);
        Due.rules(x, "rain 1 part 50;");
        x.rule(0, 1);
        x.hire(0, 1, 12);
        x.hire(0, 1, 12);
        x.hour(0, 0, 60, 0);
        DUE.is("cut for each ticket, not for all", x.count(9), 0);
    }

    private static void rainOfTheFirstLineThatFits() {
        DUE.says("3 .. for the first RAIN line that fits");
        String rising = "rain 10 part 10;rain 20 part 20;";
        DUE.is("both fit, the first is taken", backOfRain(rising, 10, 10, 20), 10);
        String falling = "rain 20 part 20;rain 10 part 10;";
        DUE.is("both fit, the first is taken", backOfRain(falling, 10, 10, 20), 20);
        DUE.is("the second fits", backOfRain(falling, 10, 10, 19), 10);
        DUE.is("none fits", backOfRain(falling, 10, 10, 9), 0);
        DUE.is("the same minutes twice", backOfRain("rain 10 part 10;rain 10 part 90;", 10, 10, 10), 10);
        DUE.is("a part of 0 fits too", backOfRain("rain 20 part 0;rain 10 part 10;", 10, 10, 20), 0);
    }

    private static void rainOfFiveLines() {
        DUE.says("3 the 6th RAIN line (the 5th is the last that stands)");
        String five = "rain 50 part 50;rain 40 part 40;rain 30 part 30;rain 20 part 20;rain 10 part 10;";
        for (int minutes = 0; minutes <= 60; minutes++) {
            int line = minutes < 10 ? 0 : Math.min(50, minutes / 10 * 10);
            DUE.is("minutes " + minutes, backOfRain(five, 10, 10, minutes), line);
        }
    }

    private static void rainWithoutLines() {
        DUE.says("3 .. RAIN line (there is none at first)");
        DUE.is("no text", backOfRain("", 10, 10, 60), 0);
        DUE.is("no such line", backOfRain("hold any;rent 5 part 5;", 10, 10, 60), 0);
    }

    private static void rainForTicketsThatRun() {
        DUE.says("3 Each TICKET that runs");
        ChairFront x = shore(30);
        Due.rules(x, "rain 1 part 100;");
        x.hour(0, 0, 60, 0);
        DUE.is("none runs", x.count(9), 0);
        for (int i = 0; i < 30; i++) {
            x.hire(0, 1, 1);
        }
        x.hour(0, 0, 60, 0);
        DUE.is("thirty, in their last hour", x.count(9), 300);
        x.hour(0, 0, 60, 0);
        DUE.is("they ended", x.count(9), 300);
        x.hire(0, 5, 12);
        x.hour(0, 61, 60, 0);
        DUE.is("wind has ended it ahead of the rain", x.count(9), 300 + 600);
    }

    private static void rainInTheLastHour() {
        DUE.says("TAKINGS: all that was PAID less all that was BACK (none is left)");
        ChairFront x = shore(30);
        Due.rules(x, "rain 1 part 100;rent 99999 part 100;");
        x.hire(0, 30, 3);
        DUE.is("all", x.rent(NONE), 900);
        x.hour(0, 0, 60, 0);
        DUE.is("two thirds", x.rent(NONE), 600);
        x.hour(0, 0, 60, 0);
        DUE.is("a third", x.rent(NONE), 300);
        DUE.is("it ends", x.hour(0, 0, 60, 0), 0);
        DUE.is("none", x.rent(NONE), 0);
        DUE.is("as much back as paid", x.count(9), x.count(8));
    }

    private static void wearByChairsStanding() {
        DUE.says("4 WEAR of each STRETCH is more by sun times chairs STANDING");
        ChairFront x = shore(50, 0, 7);
        x.hire(0, 20, 12);
        x.hour(0, 0, 0, 1);
        DUE.is("free and hired ones", x.told(0, 4), 50);
        DUE.is("none stands", x.told(1, 4), 0);
        DUE.is("seven", x.told(2, 4), 7);
        x.hour(0, 0, 0, 10);
        DUE.is("free and hired ones", x.told(0, 4), 550);
        DUE.is("none stands", x.told(1, 4), 0);
        DUE.is("seven", x.told(2, 4), 77);
        x.hour(0, 0, 0, 0);
        DUE.is("no sun", x.told(0, 4), 550);
        x.hour(0, 61, 60, 1);
        DUE.is("in wind and rain, too", x.told(0, 4), 600);
    }

    private static void wearAtAThousand() {
        DUE.says("4 .. for each 1000 of it .. 1000 go");
        ChairFront x = shore(111);
        x.hour(0, 0, 0, 9);
        DUE.told("999", x, 0, 100, 0, 111, 111, 999);
        DUE.is("none is broken", x.count(4), 0);
        ChairFront y = shore(100);
        y.hour(0, 0, 0, 10);
        DUE.told("1000", y, 0, 100, 0, 99, 99, 0);
        DUE.is("one is broken", y.count(4), 1);
        ChairFront z = shore(143);
        z.hour(0, 0, 0, 7);
        DUE.told("1001", z, 0, 100, 0, 142, 142, 1);
        DUE.is("one is broken", z.count(4), 1);
    }

    private static void wearAsOftenAsItHasThem() {
        DUE.says("4 .. as often as it has them");
        ChairFront x = shore(1999);
        x.hour(0, 0, 0, 1);
        DUE.told("1999", x, 0, 100, 0, 1998, 1998, 999);
        ChairFront y = shore(2000);
        y.hour(0, 0, 0, 1);
        DUE.told("2000", y, 0, 100, 0, 1998, 1998, 0);
        ChairFront z = shore(9000);
        z.hour(0, 0, 0, 10);
        DUE.told("90000", z, 0, 100, 0, 8910, 8910, 0);
        DUE.is("ninety are broken", z.count(4), 90);
    }

    private static void wearStaysBelowAThousand() {
        DUE.says("4 .. 1000 go (and the rest stays)");
        ChairFront x = shore(150);
        x.hour(0, 0, 0, 10);
        DUE.told("500 stay", x, 0, 100, 0, 149, 149, 500);
        x.hour(0, 0, 0, 10);
        DUE.told("1990", x, 0, 100, 0, 148, 148, 990);
        x.hour(0, 0, 0, 10);
        DUE.told("2470", x, 0, 100, 0, 146, 146, 470);
        x.carry(0, NONE, 146);
        DUE.is("wear is the stretch's, not the chairs'", x.told(0, 4), 470);
    }

    private static void freeChairsFirst() {
        DUE.says("4 .. if there is one, a FREE chair, else a HIRED one");
        ChairFront x = shore(300);
        x.hire(0, 100, 12);
        x.hire(0, 100, 12);
        x.hire(0, 97, 12);
        x.hour(0, 0, 0, 10);
        DUE.told("three free ones broke", x, 0, 100, 0, 297, 0, 0);
        DUE.is("no hired one", x.ticket(2, 1), 97);
        x.carry(NONE, 0, 1);
        x.hour(0, 0, 0, 10);
        DUE.told("a free one and one that is hired broke", x, 0, 100, 0, 296, 0, 980);
        DUE.is("one hired one", x.ticket(2, 1), 96);
        DUE.is("broken", x.count(4), 5);
    }

    private static void greatestNumberThere() {
        DUE.says("4 .. (of the TICKET there with the greatest number, which has one fewer then ..)");
        ChairFront x = shore(100, 100);
        x.hire(0, 40, 12);
        x.hire(1, 40, 12);
        x.hire(0, 60, 12);
        x.hire(1, 60, 12);
        x.hour(0, 0, 0, 10);
        int[] chairs = {40, 40, 59, 59};
        for (int t = 0; t < 4; t++) {
            DUE.is("chairs of ticket " + t, x.ticket(t, 1), chairs[t]);
        }
        DUE.is("none ended", x.count(5), 4);
    }

    private static void greatestNumberAfterAShift() {
        DUE.says("4 .. of the TICKET there (where it is used)");
        ChairFront x = shore(100, 100);
        Due.rules(x, "hold any;");
        x.hire(0, 50, 12);
        x.hire(0, 50, 12);
        x.hire(1, 50, 12);
        x.shift(1, 1);
        x.carry(0, NONE, 50);
        x.hour(0, 0, 0, 10);
        DUE.is("alone, and 500 of wear", x.ticket(0, 1), 50);
        DUE.is("the one that came", x.ticket(1, 1), 50);
        DUE.is("the greatest there", x.ticket(2, 1), 49);
        x.hour(0, 0, 0, 10);
        DUE.is("alone, at 1000", x.ticket(0, 1), 49);
    }

    private static void endsWithNone() {
        DUE.says("4 .. and ends with none");
        ChairFront x = shore(300);
        x.hire(0, 100, 12);
        x.hire(0, 100, 12);
        x.hire(0, 98, 12);
        x.hire(0, 2, 12);
        DUE.is("two of the last, one of the next", x.hour(0, 0, 0, 10), 3);
        DUE.ticket("with none", x, 3, BAD, BAD, BAD, BAD);
        DUE.ticket("the next", x, 2, 0, 97, 11, 11760);
        DUE.told("none is free", x, 0, 100, 0, 297, 0, 0);
        DUE.is("no room for one more", x.hire(0, 1, 1), FULL);
        ChairFront y = shore(100);
        for (int i = 0; i < 29; i++) {
            y.hire(0, 1, 12);
        }
        y.hire(0, 71, 12);
        DUE.is("one of 71", y.hour(0, 0, 0, 10), 30);
        DUE.is("70 left", y.ticket(29, 1), 70);
    }

    private static void brokenInItsLastHour() {
        DUE.says("4 .., 5 .. (a chair breaks ahead of the hour's end)");
        ChairFront x = shore(100);
        x.hire(0, 99, 12);
        x.hire(0, 1, 1);
        DUE.is("its chair breaks, and it ends once", x.hour(0, 0, 0, 10), 1);
        DUE.told("none is free", x, 0, 100, 0, 99, 0, 0);
        ChairFront y = shore(100);
        y.hire(0, 98, 12);
        y.hire(0, 2, 1);
        DUE.is("one of two breaks, and it ends", y.hour(0, 0, 0, 10), 1);
        DUE.told("the other is free", y, 0, 100, 0, 99, 1, 0);
    }

    private static void hoursToNone() {
        DUE.says("5 Each TICKET has an hour less, and ends with none");
        ChairFront x = shore(100);
        x.hire(0, 10, 1);
        x.hire(0, 10, 2);
        x.hire(0, 10, 12);
        DUE.is("the first ends", x.hour(0, 0, 0, 0), 2);
        DUE.ticket("one left", x, 1, 0, 10, 1, 200);
        DUE.ticket("eleven left", x, 2, 0, 10, 11, 1200);
        DUE.is("the second ends", x.hour(0, 0, 0, 0), 1);
        for (int left = 9; left >= 1; left--) {
            x.hour(0, 0, 0, 0);
            DUE.is("hours left", x.ticket(2, 2), left);
        }
        DUE.is("the third ends", x.hour(0, 0, 0, 0), 0);
        DUE.told("all are free", x, 0, 100, 0, 100, 100);
    }
}
