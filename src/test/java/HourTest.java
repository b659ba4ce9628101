/** Promise 10: hour, in the order of its five steps. */
final class HourTest {
    private static final int NONE = ChairFront.NONE, BAD = ChairFront.BAD;
    private static final Due DUE = new Due();

    public static void main(String[] args) {
        refused();
        tide();
        tideAheadOfWind();
        wind();
        rain();
        rainOfTheFirstLine();
        rainIsCutByTicket();
        windAheadOfRain();
        wearOfFreeOnes();
        wearOfHiredOnes();
        wearAfterRain();
        wearIsLateForTheTide();
        brokenAreNotPaidBack();
        ticketsThatMoved();
        end();
        ticketsThatEndWhileChairsBreak();
        theLastChair();
        fullShore();
        fiveThousandHours();
        DUE.end();
    }

    private static ChairFront shore(int... standing) {
        ChairFront x = new ChairFront(9000);
        for (int i = 0; i < standing.length; i++) {
            x.stretch(100 * (i + 1), i % 4);
            x.carry(NONE, i, standing[i]);
        }
        return x;
    }

    private static void refused() {
        ChairFront x = shore(10);
        x.hire(0, 5, 3);
        int[][] wrong = {{-1, 0, 0, 0}, {1001, 0, 0, 0}, {0, -1, 0, 0}, {0, 101, 0, 0}, {0, 0, -1, 0}, {0, 0, 61, 0},
            {0, 0, 0, -1}, {0, 0, 0, 11}};
        for (int[] w : wrong) {
            DUE.is("hour(" + w[0] + ", " + w[1] + ", " + w[2] + ", " + w[3] + ")", x.hour(w[0], w[1], w[2], w[3]), BAD);
        }
        DUE.count("refused", x, 1, 8990, 10, 0, 0, 1, 1, 0, 150, 0);
        DUE.ticket("refused", x, 0, 0, 5, 3, 150);
        DUE.is("the greatest of all", x.hour(1000, 100, 60, 10), 0);
        DUE.count("all lost", x, 1, 8990, 0, 10, 0, 0, 1, 1, 150, 0);
    }

    private static void tide() {
        ChairFront x = shore(10, 20, 30);
        x.hire(0, 10, 3);
        x.hire(1, 5, 3);
        x.hire(2, 5, 3);
        x.unpaid(1, 9, 3);
        DUE.is("below all", x.hour(99, 0, 0, 0), 3);
        DUE.is("not above 200", x.hour(200, 0, 0, 2), 1);
        DUE.told("lost", x, 0, 100, 0, 0, 0, 0, 0);
        DUE.told("lost", x, 1, 200, 1, 0, 0, 0, 9);
        DUE.told("dry", x, 2, 300, 2, 30, 25, 60, 0);
        DUE.ticket("gone", x, 0, BAD, BAD, BAD, BAD);
        DUE.ticket("gone", x, 1, BAD, BAD, BAD, BAD);
        DUE.ticket("dry", x, 2, 2, 5, 1, 150);
        DUE.count("nothing is back", x, 3, 8940, 30, 30, 0, 1, 3, 2, 600, 0);
        DUE.is("chairs come anew", x.carry(NONE, 0, 7), 7);
        DUE.is("and can be hired", x.hire(0, 7, 1), 3);
        DUE.is("a stretch at level 0", x.stretch(0, 0), 3);
        x.carry(NONE, 3, 4);
        x.hour(0, 0, 0, 0);
        DUE.told("is not above it", x, 3, 0, 0, 0, 0, 0, 0);
        DUE.is("lost in all", x.count(3), 34);
    }

    private static void tideAheadOfWind() {
        ChairFront x = shore(10, 10);
        x.hire(0, 10, 3);
        x.hire(1, 10, 2);
        x.hour(100, 61, 0, 0);
        DUE.count("only what the tide left is back", x, 2, 8980, 10, 10, 0, 0, 2, 1, 500, 200);
    }

    private static void wind() {
        ChairFront x = shore(100);
        x.hire(0, 10, 5);
        x.rule(0, 3);
        x.hire(0, 7, 2);
        DUE.is("not above stop", x.hour(0, 60, 0, 0), 2);
        DUE.is("nothing is back", x.count(9), 0);
        DUE.is("above stop", x.hour(0, 61, 0, 0), 0);
        DUE.count("hours left are back", x, 1, 8900, 100, 0, 0, 0, 2, 2, 542, 421);
        DUE.told("free", x, 0, 100, 0, 100, 100);
        x.rule(1, 100);
        x.hire(0, 1, 2);
        DUE.is("none is above 100", x.hour(0, 100, 0, 0), 1);
        x.rule(1, 0);
        DUE.is("stop 0", x.hour(0, 1, 0, 0), 0);
        DUE.is("3 more are back", x.count(9), 424);
    }

    private static void rain() {
        ChairFront x = shore(100);
        DUE.is("one line", Due.rules(x, "rain 20 part 30;"), 1);
        x.hire(0, 10, 5);
        x.hour(0, 0, 19, 0);
        DUE.is("less than told", x.count(9), 0);
        x.hour(0, 0, 20, 0);
        DUE.is("as much as told", x.count(9), 30);
        x.rule(0, 100);
        x.hour(0, 0, 60, 0);
        DUE.is("price as hired", x.count(9), 60);
        Due.rules(x, "");
        x.hour(0, 0, 60, 0);
        DUE.is("no line", x.count(9), 60);
    }

    private static void rainOfTheFirstLine() {
        ChairFront x = shore(100);
        Due.rules(x, "rain 30 part 50; rain 10 part 20; rain 40 part 100; rain 1 part 0; rain 60 part 99;");
        x.hire(0, 10, 12);
        x.hour(0, 0, 45, 0);
        DUE.is("the first that fits, not the best", x.count(9), 50);
        x.hour(0, 0, 29, 0);
        DUE.is("the second", x.count(9), 70);
        x.hour(0, 0, 9, 0);
        DUE.is("a part of 0", x.count(9), 70);
        x.hour(0, 0, 0, 0);
        DUE.is("no rain", x.count(9), 70);
    }

    private static void rainIsCutByTicket() {
        ChairFront x = shore(100);
        Due.rules(x, "rain 1 part 33;");
        x.rule(0, 1);
        x.hire(0, 5, 2);
        x.hire(0, 5, 2);
        x.hire(0, 3, 2);
        x.hour(0, 0, 1, 0);
        DUE.is("1.65 and 1.65 and 0.99", x.count(9), 2);
    }

    private static void windAheadOfRain() {
        ChairFront x = shore(100);
        Due.rules(x, "rain 1 part 100;");
        x.hire(0, 10, 3);
        x.hour(0, 70, 60, 0);
        DUE.is("not both", x.count(9), 300);
    }

    private static void wearOfFreeOnes() {
        ChairFront x = shore(100, 3);
        x.hire(0, 99, 12);
        x.hour(0, 0, 0, 9);
        DUE.told("not yet", x, 0, 100, 0, 100, 1, 900);
        DUE.told("the other", x, 1, 200, 1, 3, 3, 27);
        x.hour(0, 0, 0, 0);
        DUE.told("no sun", x, 0, 100, 0, 100, 1, 900);
        x.hour(0, 0, 0, 1);
        DUE.told("a free one, at 1000", x, 0, 100, 0, 99, 0, 0);
        DUE.ticket("not one of these", x, 0, 0, 99, 9, 11880);
        DUE.count("one is broken", x, 2, 8897, 102, 0, 1, 1);
        x.hour(0, 0, 0, 10);
        DUE.told("990 stay", x, 0, 100, 0, 99, 0, 990);
    }

    private static void wearOfHiredOnes() {
        ChairFront x = shore(300, 10);
        x.hire(0, 100, 12);
        x.hire(0, 100, 12);
        x.hire(0, 97, 12);
        x.hire(0, 2, 12);
        x.hire(1, 5, 12);
        DUE.is("one free, then two of the greatest there, which ends", x.hour(0, 0, 0, 10), 4);
        DUE.told("3 broke", x, 0, 100, 0, 297, 0, 0);
        DUE.ticket("it ended with none", x, 3, BAD, BAD, BAD, BAD);
        DUE.ticket("the next", x, 2, 0, 97, 11, 11640);
        DUE.ticket("elsewhere", x, 4, 1, 5, 11, 600);
        DUE.count("3 broke", x, 2, 8690, 307, 0, 3, 4, 5, 1);
        DUE.is("2970, so two of the next", x.hour(0, 0, 0, 10), 4);
        DUE.told("5 broke", x, 0, 100, 0, 295, 0, 970);
        DUE.ticket("95 left", x, 2, 0, 95, 10, 11640);
        DUE.ticket("the least number is left alone", x, 0, 0, 100, 10, 12000);
        DUE.count("5 broke", x, 2, 8690, 305, 0, 5, 4, 5, 2, 36480, 0);
    }

    private static void wearAfterRain() {
        ChairFront x = shore(100);
        Due.rules(x, "rain 1 part 100;");
        x.rule(0, 1);
        x.hire(0, 100, 3);
        x.hour(0, 0, 5, 10);
        DUE.is("rain for all 100", x.count(9), 100);
        DUE.ticket("99 then", x, 0, 0, 99, 2, 300);
        x.hour(0, 0, 5, 10);
        DUE.is("rain for 99", x.count(9), 199);
    }

    private static void wearIsLateForTheTide() {
        ChairFront x = shore(500, 90);
        x.hour(0, 0, 0, 1);
        DUE.is("half a chair", x.told(0, 4), 500);
        x.hour(150, 0, 0, 10);
        DUE.told("none stands to wear; what was stays", x, 0, 100, 0, 0, 0, 500);
        DUE.told("above it", x, 1, 200, 1, 90, 90, 990);
        DUE.count("lost, not broken", x, 2, 8410, 90, 500, 0);
        x.carry(NONE, 0, 50);
        x.hour(0, 0, 0, 10);
        DUE.told("new ones wear on", x, 0, 100, 0, 49, 49, 0);
    }

    private static void brokenAreNotPaidBack() {
        ChairFront x = shore(100);
        x.hire(0, 60, 4);
        x.hire(0, 40, 4);
        x.hour(0, 0, 0, 10);
        DUE.ticket("39 left", x, 1, 0, 39, 3, 1600);
        x.hour(0, 61, 0, 10);
        DUE.is("back for 60 and 39 of 3 hours", x.count(9), 2970);
        DUE.told("free ahead of the sun", x, 0, 100, 0, 99, 99, 990);
    }

    private static void ticketsThatMoved() {
        ChairFront x = shore(100, 100);
        Due.rules(x, "hold any;");
        x.hire(0, 50, 4);
        x.hire(1, 50, 4);
        x.shift(0, 1);
        x.hour(0, 0, 0, 10);
        DUE.ticket("the greater number has 49", x, 1, 1, 49, 3, 2000);
        DUE.ticket("the one that came has all", x, 0, 1, 50, 3, 2000);
        DUE.told("none is hired there", x, 0, 100, 0, 99, 99, 0);
        x.hour(100, 0, 0, 0);
        DUE.is("it ran from the tide", x.count(5), 2);
        x.shift(1, 0);
        DUE.is("no chairs where the tide was", x.ticket(1, 0), 1);
        DUE.is("the tide where they are", x.hour(200, 0, 0, 0), 0);
        DUE.count("all lost", x, 2, 8800, 0, 198, 2, 0, 2, 3, 4000, 0);
    }

    private static void end() {
        ChairFront x = shore(10);
        x.hire(0, 2, 1);
        x.hire(0, 3, 2);
        x.hire(0, 4, 12);
        DUE.is("the first ends", x.hour(0, 0, 0, 0), 2);
        DUE.told("free", x, 0, 100, 0, 10, 3);
        DUE.is("the second ends", x.hour(0, 0, 0, 0), 1);
        DUE.told("free", x, 0, 100, 0, 10, 6);
        for (int i = 0; i < 9; i++) {
            DUE.is("the third runs", x.hour(0, 0, 0, 0), 1);
        }
        DUE.ticket("an hour left", x, 2, 0, 4, 1, 480);
        DUE.is("the third ends", x.hour(0, 0, 0, 0), 0);
        DUE.count("all ended", x, 1, 8990, 10, 0, 0, 0, 3, 12, 560, 0);
    }

    private static void ticketsThatEndWhileChairsBreak() {
        ChairFront x = shore(500);
        for (int i = 0; i < 4; i++) {
            x.hire(0, 100, 12);
        }
        x.hire(0, 98, 12);
        x.hire(0, 1, 12);
        x.hire(0, 1, 12);
        DUE.is("five break: one, one, then three of the next", x.hour(0, 0, 0, 10), 5);
        DUE.ticket("the next", x, 4, 0, 95, 11, 11760);
        DUE.ticket("ended", x, 5, BAD, BAD, BAD, BAD);
        DUE.ticket("ended", x, 6, BAD, BAD, BAD, BAD);
        DUE.told("five broke", x, 0, 100, 0, 495, 0, 0);
    }

    private static void theLastChair() {
        ChairFront x = shore(1);
        for (int i = 0; i < 99; i++) {
            x.hour(0, 0, 0, 10);
        }
        DUE.is("the only one", x.hire(0, 1, 12), 0);
        DUE.told("990", x, 0, 100, 0, 1, 0, 990);
        DUE.is("breaks, and its ticket ends", x.hour(0, 0, 0, 10), 0);
        DUE.told("bare", x, 0, 100, 0, 0, 0, 0);
        DUE.count("broken", x, 1, 8999, 0, 0, 1, 0, 1, 100, 120, 0);
    }

    /** Ten stretches, and 30 tickets that have all chairs of the last one. */
    private static void fullShore() {
        ChairFront x = shore(90, 90, 90, 90, 90);
        for (int i = 5; i < 10; i++) {
            x.stretch(500, 3);
        }
        x.carry(NONE, 9, 300);
        for (int i = 0; i < 30; i++) {
            x.hire(9, 10, 12);
        }
        DUE.is("three break", x.hour(0, 0, 0, 10), 30);
        DUE.ticket("the greatest", x, 29, 9, 7, 11, 1200);
        DUE.told("three broke", x, 9, 500, 3, 297, 0, 0);
        DUE.is("all end", x.hour(0, 61, 0, 0), 0);
        DUE.is("back for 297", x.count(9), 297 * 110);
        DUE.is("the highest", x.hour(500, 0, 0, 0), 0);
        DUE.count("the tide takes all", x, 10, 9000 - 450 - 300, 0, 450 + 297, 3);
    }

    /** More calls than are promised; that hours have an end is told all the same. */
    private static void fiveThousandHours() {
        ChairFront x = shore(1);
        for (int i = 0; i < 5000; i++) {
            x.hour(0, 0, 0, 0);
        }
        DUE.is("5000 went", x.hour(0, 0, 0, 0), ChairFront.STATE);
        DUE.is("BAD ahead of STATE", x.hour(-1, 0, 0, 0), BAD);
        DUE.is("5000", x.count(7), 5000);
    }
}
