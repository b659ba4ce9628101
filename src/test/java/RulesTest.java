/** Promises 11 to 14: feed, rules, fault, rent. */
final class RulesTest {
    private static final int NONE = ChairFront.NONE, BAD = ChairFront.BAD, FULL = ChairFront.FULL;
    private static final Due DUE = new Due();
    private static final String FIVE_RAIN = "rain 1 part 1;rain 1 part 1;rain 1 part 1;rain 1 part 1;rain 1 part 1;";
    private static final String FIVE_RENT = "rent 0 part 1;rent 1 part 1;rent 2 part 1;rent 3 part 1;rent 4 part 1;";

    public static void main(String[] args) {
        feed();
        feedFull();
        lines();
        blanks();
        misplaced();
        notATokenAtAll();
        notAsTold();
        tooManyLines();
        whatStaysAtAFault();
        rent();
        rentOfTakings();
        DUE.end();
    }

    private static void feed() {
        ChairFront x = new ChairFront(1);
        DUE.is("n = 0", x.feed(1, 0), BAD);
        DUE.is("n = -1", x.feed(1, -1), BAD);
        DUE.is("n = 9", x.feed(1, 9), BAD);
        DUE.is("the lowest bytes, the highest first", x.feed(0x7A7A7A7A686F6C64L, 4), 4);
        DUE.is("a single one", x.feed(0x20, 1), 5);
        DUE.is("another piece", x.feed(0xFFFFFFFF616E793BL, 4), 9);
        DUE.is("hold any;", x.rules(), 1);
        DUE.is("the tape is empty then", x.feed(-1L, 8), 8);
        DUE.is("byte 255", x.rules(), -1000100);
        DUE.is("empty after a fault, too", x.feed(0x20, 1), 1);
    }

    private static void feedFull() {
        ChairFront x = new ChairFront(1);
        for (int i = 1; i <= 37; i++) {
            DUE.is("feed " + i, x.feed(0x2020202020202020L, 8), 8 * i);
        }
        DUE.is("296 and 5", x.feed(0x2020202020L, 5), FULL);
        DUE.is("BAD ahead of FULL", x.feed(0x20, 9), BAD);
        DUE.is("none came", x.feed(0x20202020L, 4), 300);
        DUE.is("301", x.feed(0x20, 1), FULL);
        DUE.is("300 blanks", x.rules(), 0);
        DUE.is("empty then", x.feed(0x20, 1), 1);
    }

    private static void lines() {
        reads("", 0);
        reads("hold zone;", 1);
        reads("hold any;", 1);
        reads("hold place;", 1);
        reads("rain 1 part 0;", 1);
        reads("rain 60 part 100;", 1);
        reads("rain 00060 part 00100;", 1);
        reads("rent 0 part 0;", 1);
        reads("rent 99999 part 100;", 1);
        reads("rent 00000 part 0;rent 00001 part 1;", 2);
        reads("rain 30 part 5;rain 30 part 9;rain 10 part 5;", 3);
        reads("rent 5 part 5;hold any;rain 5 part 5;rent 6 part 5;hold any;", 5);
        reads(FIVE_RAIN + FIVE_RENT, 10);
        reads("hold any;".repeat(33), 33);
    }

    private static void blanks() {
        reads(" \n hold \n\n zone \n ; \n ", 1);
        reads("rain5part5;rent7part9;", 2);
        reads("rain 5part 5;hold\nany;", 2);
        reads("   ", 0);
        reads("\n", 0);
        faultAt("holdany;", 1, 0);
        faultAt("hold any ;\t", 1, 10);
        faultAt("hold\rany;", 1, 4);
    }

    private static void misplaced() {
        faultAt("hold", 1, 4);
        faultAt("hold  \n", 1, 7);
        faultAt("hold any", 1, 8);
        faultAt("rain 5 part 5 ", 1, 14);
        faultAt("hold here;", 1, 5);
        faultAt("hold part;", 1, 5);
        faultAt("hold 5;", 1, 5);
        faultAt("hold;", 1, 4);
        faultAt("hold any any;", 1, 9);
        faultAt("hold any;;", 1, 9);
        faultAt(" ;", 1, 1);
        faultAt("5", 1, 0);
        faultAt("zone;", 1, 0);
        faultAt("part 5;", 1, 0);
        faultAt("holds any;", 1, 0);
        faultAt("hol any;", 1, 0);
        faultAt("bold any;", 1, 0);
        faultAt("hold eny;", 1, 5);
        faultAt("rain 5 cart 5;", 1, 7);
        faultAt("hold anyx;", 1, 5);
        faultAt("hold an;", 1, 5);
        faultAt("rain part 5;", 1, 5);
        faultAt("rain 5 5;", 1, 7);
        faultAt("rain 5 part;", 1, 11);
        faultAt("rain 5 part part 5;", 1, 12);
        faultAt("rain 5 part 5 5;", 1, 14);
        faultAt("rain 5 parts 5;", 1, 7);
        faultAt("rent;", 1, 4);
        faultAt("rent 5 rent 5;", 1, 7);
        faultAt("rent 5 part 5", 1, 13);
        faultAt("rent x part 5;", 1, 5);
        faultAt("hold any; rain", 1, 14);
    }

    private static void notATokenAtAll() {
        faultAt("rain 123456 part 5;", 1, 5);
        faultAt("rain 000005 part 5;", 1, 5);
        faultAt("rain 5 part 1234567;", 1, 12);
        faultAt("rent 100000 part 5;", 1, 5);
        faultAt("rent 99999999999999999999 part 5;", 1, 5);
        faultAt("abcdefg", 1, 0);
        faultAt("hold anyanyany;", 1, 5);
        faultAt("Hold any;", 1, 0);
        faultAt("hold Any;", 1, 5);
        faultAt("hold any,", 1, 8);
        faultAt("hold an{;", 1, 5);
        faultAt("hold `any;", 1, 5);
        faultAt("rain :5 part 5;", 1, 5);
        faultAt("rain 5/ part 5;", 1, 6);
        faultAt("rain -5 part 5;", 1, 5);
        faultAt("hold any;\0", 1, 9);
        faultAt("hold any;" + (char) 233, 1, 9);
    }

    private static void notAsTold() {
        faultAt("rain 0 part 5;", 2, 5);
        faultAt("rain 00000 part 5;", 2, 5);
        faultAt("rain 61 part 5;", 2, 5);
        faultAt("rain 99999 part 5;", 2, 5);
        faultAt("rain 5 part 101;", 2, 12);
        faultAt("rain 61 part 101;", 2, 5);
        faultAt("rent 5 part 101;", 2, 12);
        faultAt("rent 5 part 5;rent 5 part 5;", 2, 19);
        faultAt("rent 5 part 5;rent 4 part 5;", 2, 19);
        faultAt("rent 0 part 5;hold any;rent 0 part 5;", 2, 28);
        faultAt("rent 99999 part 5;rent 99999 part 5;", 2, 23);
        faultAt("rain 61 5;", 2, 5);
        faultAt("rain 5 part 101", 2, 12);
    }

    private static void tooManyLines() {
        faultAt(FIVE_RAIN + "rain 1 part 1;", 3, 70);
        faultAt(FIVE_RENT + "rent 5 part 1;", 3, 70);
        faultAt(FIVE_RAIN + " rain", 3, 71);
        faultAt(FIVE_RENT + FIVE_RAIN + "hold any;rent 0 part 200;", 3, 149);
        faultAt(FIVE_RAIN + "rain;", 3, 70);
        faultAt(FIVE_RAIN + "rains;", 1, 70);
        faultAt(FIVE_RAIN + "hold rain;", 1, 75);
    }

    private static void whatStaysAtAFault() {
        ChairFront x = new ChairFront(100);
        x.stretch(10, 0);
        x.stretch(10, 1);
        x.carry(NONE, 0, 20);
        x.carry(NONE, 1, 20);
        x.hire(0, 10, 12);
        DUE.is("fault() before one", x.fault(), 0);
        Due.rules(x, "hold any;rain 5 part 50;rent 100 part 10;");
        DUE.is("fault() without one", x.fault(), 0);
        DUE.is("a fault at the end", Due.rules(x, "hold place;rain 1 part 1;rent 9 part 9;hold"), -1000143);
        DUE.is("fault()", x.fault(), 1);
        DUE.is("hold stays", x.shift(0, 1), 1);
        DUE.is("rent stays", x.rent(1000), 10);
        x.hour(0, 0, 4, 0);
        DUE.is("rain stays", x.count(9), 0);
        x.hour(0, 0, 5, 0);
        DUE.is("rain stays", x.count(9), 50);
        DUE.is("another fault", Due.rules(x, "rain 0"), -1000105);
        DUE.is("fault()", x.fault(), 2);
        DUE.is("a good text", Due.rules(x, "rent 10 part 100;"), 1);
        DUE.is("fault() is the latest, still", x.fault(), 2);
        DUE.is("new rent", x.rent(1000), 10);
        DUE.is("new rent", x.rent(5), 5);
        x.hour(0, 0, 60, 0);
        DUE.is("no rain now", x.count(9), 50);
        DUE.is("hold as at first", x.shift(0, 0), ChairFront.STATE);
    }

    private static void rent() {
        ChairFront x = new ChairFront(1);
        DUE.is("no lines", x.rent(1000000), 0);
        DUE.is("-1", x.rent(-1), BAD);
        DUE.is("BAD", x.rent(BAD), BAD);
        DUE.is("NONE + 1", x.rent(NONE + 1), BAD);
        DUE.is("1000001", x.rent(1000001), BAD);
        Due.rules(x, "rent 100 part 10;rent 105 part 50;rent 1000 part 1;rent 99999 part 100;");
        int[][] rents = {{0, 0}, {9, 0}, {10, 1}, {99, 9}, {100, 10}, {101, 10}, {102, 11}, {105, 12}, {106, 12},
            {204, 12}, {205, 13}, {1000, 20}, {1001, 21}, {99999, 99019}, {100000, 99019}, {1000000, 99019}};
        for (int[] r : rents) {
            DUE.is("rent(" + r[0] + ")", x.rent(r[0]), r[1]);
        }
        Due.rules(x, "rent 0 part 100;rent 50 part 0;rent 60 part 10;");
        DUE.is("nothing below 0", x.rent(50), 0);
        DUE.is("one of ten", x.rent(1000), 1);
        Due.rules(x, "hold any;");
        DUE.is("as at first", x.rent(1000), 0);
    }

    private static void rentOfTakings() {
        ChairFront x = new ChairFront(1000);
        x.stretch(10, 0);
        x.carry(NONE, 0, 1000);
        Due.rules(x, "rent 9 part 100;");
        DUE.is("no coin", x.rent(NONE), 0);
        Due.rules(x, "rent 1000 part 10;rent 99999 part 50;rain 1 part 50;");
        DUE.is("nothing came in", x.rent(NONE), 0);
        x.hire(0, 10, 10);
        DUE.is("1000", x.rent(NONE), 100);
        x.hire(0, 10, 2);
        DUE.is("1200", x.rent(NONE), 200);
        x.hour(0, 0, 1, 0);
        DUE.is("1100", x.rent(NONE), 150);
        x.hour(0, 99, 1, 0);
        DUE.is("100", x.rent(NONE), 10);
        x.hour(0, 0, 0, 0);
        x.rule(0, 100);
        for (int i = 0; i < 10; i++) {
            x.hire(0, 100, 12);
        }
        DUE.is("more than a million came in", x.count(8), 1201200);
        DUE.is("what is above all: nothing", x.rent(NONE), 100 + 49499);
    }

    private static void reads(String text, int lines) {
        ChairFront x = new ChairFront(1);
        DUE.is("'" + text + "'", Due.rules(x, text), lines);
        DUE.is("'" + text + "': fault()", x.fault(), 0);
    }

    private static void faultAt(String text, int number, int place) {
        ChairFront x = new ChairFront(1);
        DUE.is("'" + text + "'", Due.rules(x, text), -1000100 - place);
        DUE.is("'" + text + "': fault()", x.fault(), number);
    }
}
