/** Each sentence of promises 11 to 13, and of part 2 of the terms, that names a boundary. */
final class TextEdgesTest {
    private static final int NONE = ChairFront.NONE, BAD = ChairFront.BAD, FULL = ChairFront.FULL;
    private static final int LEAST = Integer.MIN_VALUE, MOST = Integer.MAX_VALUE;
    private static final Due DUE = new Due();
    private static final String FIVE_RAIN = "rain 1 part 1;rain 2 part 2;rain 3 part 3;rain 4 part 4;rain 5 part 5;";
    private static final String FIVE_RENT = "rent 1 part 1;rent 2 part 2;rent 3 part 3;rent 4 part 4;rent 5 part 5;";

    public static void main(String[] args) {
        feedOneToEight();
        feedLowestBytes();
        feedHighestFirst();
        feedAtMostThreeHundred();
        feedFullAtEachLength();
        feedAfterReading();
        emptyTape();
        blanksAlone();
        fullTapeOfLines();
        lettersOfNames();
        lengthOfNames();
        figuresOfNumbers();
        lengthOfNumbers();
        leadingNoughts();
        theSign();
        theTwoBlanks();
        noBlankNeeded();
        blankNeeded();
        everyByteAlone();
        everyByteWithinALine();
        holdWords();
        lineWords();
        everyLetterOfAWord();
        rainMinutes();
        rainPart();
        rentEnds();
        rentPart();
        rentEndsRise();
        rainNeedNotRise();
        theEndIsHowManyBytes();
        firstTokenThatHasOne();
        ofOneTokenTheLeast();
        theSixthRainLine();
        theSixthRentLine();
        fiveAreCountedByText();
        linesAreCounted();
        whatTheTextDoesNotTell();
        tapeIsEmptyAfterAFault();
        faultBeforeOne();
        faultIsTheLatest();
        DUE.end();
    }

    private static void reads(String text, int lines) {
        ChairFront x = new ChairFront(1);
        DUE.is("'" + text + "'", Due.rules(x, text), lines);
        DUE.is("'" + text + "': fault()", x.fault(), 0);
    }

    private static void faultAt(String text, int number, int place) {
        ChairFront x = new ChairFront(1);
        DUE.is("'" + text + "'", Due.rules(x, text), -1000100 - place);
        DUE.is("'" + text + "': fault()", x.fault(), number);
    }

    private static void feedOneToEight() {
        DUE.says("Promise 11: The lowest n bytes of w (1 to 8); BAD: n");
        ChairFront x = new ChairFront(1);
        for (int n : new int[] {0, -1, 9, LEAST, MOST, NONE}) {
            DUE.is("n = " + n, x.feed(0x2020202020202020L, n), BAD);
        }
        int length = 0;
        for (int n = 1; n <= 8; n++) {
            length += n;
            DUE.is("n = " + n, x.feed(0x2020202020202020L, n), length);
        }
    }

    private static void feedLowestBytes() {
        DUE.says("Promise 11: The lowest n bytes of w");
        for (int n = 1; n <= 7; n++) {
            ChairFront x = new ChairFront(1);
            long blanksBelow = n == 7 ? 0xFF20202020202020L : -1L << 8 * n | 0x2020202020202020L & (1L << 8 * n) - 1;
            DUE.is("n = " + n, x.feed(blanksBelow, n), n);
            DUE.is("only blanks came", x.rules(), 0);
        }
        ChairFront x = new ChairFront(1);
        x.feed(0xFF20202020202020L, 8);
        DUE.is("all eight", x.rules(), -1000100);
        x.feed(0x20202020202020FFL, 8);
        DUE.is("the last of eight", x.rules(), -1000107);
        x.feed(-1L, 1);
        DUE.is("the lowest one", x.rules(), -1000100);
    }

    private static void feedHighestFirst() {
        DUE.says("Promise 11: the highest of them first, come behind the tape");
        ChairFront x = new ChairFront(1);
        x.feed(0x686F6C6420616E79L, 8);
        DUE.is("behind", x.feed(0x3B, 1), 9);
        DUE.is("hold any;", x.rules(), 1);
        x.feed(0x3B796E6120646C6FL, 8);
        DUE.is("not the lowest first", x.rules(), -1000100);
        for (char c : "rent 99999 part 100;".toCharArray()) {
            x.feed(c, 1);
        }
        DUE.is("one by one", x.rules(), 1);
    }

    private static void feedAtMostThreeHundred() {
        DUE.says("THE TAPE has at most 300 bytes; Promise 11: FULL: none comes");
        ChairFront x = new ChairFront(1);
        for (int i = 1; i <= 299; i++) {
            DUE.is("byte " + i, x.feed(' ', 1), i);
        }
        DUE.is("two more", x.feed(0x2020, 2), FULL);
        DUE.is("the 300th", x.feed(' ', 1), 300);
        DUE.is("the 301st", x.feed(' ', 1), FULL);
        DUE.is("300 blanks", x.rules(), 0);
        DUE.is("room again", x.feed(' ', 1), 1);
    }

    private static void feedFullAtEachLength() {
        DUE.says("Promise 11: FULL: none comes");
        for (int room = 0; room < 8; room++) {
            ChairFront x = new ChairFront(1);
            DUE.is("fed", Due.feed(x, " ".repeat(300 - room)), 300 - room);
            for (int n = room + 1; n <= 8; n++) {
                DUE.is(n + " bytes where " + room + " have room", x.feed(-1L, n), FULL);
            }
            if (room > 0) {
                DUE.is(room + " bytes where " + room + " have room", x.feed(0x2020202020202020L, room), 300);
            }
            DUE.is("none of the refused bytes came", x.rules(), 0);
        }
    }

    private static void feedAfterReading() {
        DUE.says("Promise 12: The tape, empty then, is read");
        ChairFront x = new ChairFront(1);
        for (int i = 0; i < 5; i++) {
            DUE.is("fed", Due.feed(x, "hold any;"), 9);
            DUE.is("read", x.rules(), 1);
            DUE.is("nothing is left", x.rules(), 0);
        }
    }

    private static void emptyTape() {
        DUE.says("text: { .. } (no line)");
        reads("", 0);
    }

    private static void blanksAlone() {
        DUE.says("bytes 32 and 10 ahead of, between, behind these, as many as wanted");
        reads(" ", 0);
        reads("\n", 0);
        reads(" \n".repeat(150), 0);
        reads(" ".repeat(291) + "hold any;", 1);
        reads("hold any;" + "\n".repeat(291), 1);
        reads("hold" + " ".repeat(292) + "any;", 1);
        reads("\n\n hold \n any \n ; \n\n rain \n 1 \n part \n 1 \n ; \n", 2);
    }

    private static void fullTapeOfLines() {
        DUE.says("THE TAPE has at most 300 bytes (all are read)");
        reads("hold any;".repeat(33) + "   ", 33);
        faultAt("hold any;".repeat(33) + "  ;", 1, 299);
        faultAt("hold any;".repeat(33) + "hol", 1, 297);
        faultAt("hold any;".repeat(32) + "   hold any ", 1, 300);
    }

    private static void lettersOfNames() {
        DUE.says("NAMES (letters a to z ..)");
        reads("hold zone;hold any;hold place;", 3);
        for (char no : new char[] {'`', '{', '@', '[', 'A', 'Z', 225, 250}) {
            faultAt(no + "old any;", 1, 0);
            faultAt("hold any" + no + ";", 1, 8);
            faultAt("hold " + no + "ny;", 1, 5);
        }
        faultAt("a", 1, 0);
        faultAt("z", 1, 0);
        faultAt("HOLD ANY;", 1, 0);
    }

    private static void lengthOfNames() {
        DUE.says("NAMES (.. 6 at most)");
        faultAt("holdxy any;", 1, 0);
        faultAt("holdxyz any;", 1, 0);
        faultAt("hold placex;", 1, 5);
        faultAt("hold placexy;", 1, 5);
        faultAt("hold " + "a".repeat(295), 1, 5);
        faultAt("rain 5 partpart 5;", 1, 7);
        faultAt("rain 5 part 5 partpa;", 1, 14);
    }

    private static void figuresOfNumbers() {
        DUE.says("NUMBERS (figures ..)");
        reads("rent 12345 part 67;rent 67890 part 89;", 2);
        faultAt("rent /5 part 5;", 1, 5);
        faultAt("rent 5/ part 5;", 1, 6);
        faultAt("rent :5 part 5;", 1, 5);
        faultAt("rent 5: part 5;", 1, 6);
        faultAt("rent -1 part 5;", 1, 5);
        faultAt("rent +1 part 5;", 1, 5);
        faultAt("rent 1.5 part 5;", 1, 6);
    }

    private static void lengthOfNumbers() {
        DUE.says("NUMBERS (.. 5 at most); is none (a run of six figures or more, at its first)");
        reads("rent 99999 part 00100;", 1);
        faultAt("rent 100000 part 5;", 1, 5);
        faultAt("rent 000001 part 5;", 1, 5);
        faultAt("rent 0000001 part 5;", 1, 5);
        faultAt("rent 5 part 000005;", 1, 12);
        faultAt("rain 000005 part 5;", 1, 5);
        faultAt("rent " + "1".repeat(295), 1, 5);
        faultAt("rent " + "9".repeat(20) + " part 5;", 1, 5);
        faultAt("123456", 1, 0);
        faultAt("12345", 1, 0);
        faultAt("hold 123456;", 1, 5);
    }

    private static void leadingNoughts() {
        DUE.says("NUMBERS (figures, 5 at most) (00060 is 60)");
        reads("rain 00060 part 00100;", 1);
        reads("rent 00000 part 00000;", 1);
        faultAt("rain 00061 part 5;", 2, 5);
        faultAt("rain 00000 part 5;", 2, 5);
        faultAt("rain 5 part 00101;", 2, 12);
        faultAt("rent 00007 part 5;rent 7 part 5;", 2, 23);
    }

    private static void theSign() {
        DUE.says("SIGNS ;");
        reads("hold any;", 1);
        faultAt("hold any:", 1, 8);
        faultAt("hold any<", 1, 8);
        faultAt("hold any,", 1, 8);
        faultAt(";", 1, 0);
        faultAt("hold any;;", 1, 9);
        faultAt("hold;any;", 1, 4);
    }

    private static void theTwoBlanks() {
        DUE.says("bytes 32 and 10");
        for (char c = 0; c <= 33; c++) {
            if (c == 10 || c == 32) {
                reads(c + "hold" + c + "any" + c + ";" + c, 1);
            } else {
                faultAt("hold" + c + "any;", 1, 4);
                faultAt("hold any;" + c, 1, 9);
                faultAt(c + "hold any;", 1, 0);
            }
        }
        faultAt("hold" + (char) 160 + "any;", 1, 4);
        faultAt("hold" + (char) 133 + "any;", 1, 4);
    }

    private static void noBlankNeeded() {
        DUE.says("(none is needed where one ends without)");
        reads("rain1part1;rent1part1;hold any;", 3);
        reads("rain 1part 1;", 1);
        reads("rain60part100;rain60part100;", 2);
    }

    private static void blankNeeded() {
        DUE.says("(none is needed where one ends without) (two NAMES, two NUMBERS do not)");
        faultAt("holdany;", 1, 0);
        faultAt("hold anyhold any;", 1, 5);
        faultAt("rain 6 0 part 5;", 1, 7);
        faultAt("hol d any;", 1, 0);
        faultAt("rain 5 pa rt 5;", 1, 7);
    }

    /** A byte alone is no text, but for the two blanks. */
    private static void everyByteAlone() {
        DUE.says("1 it cannot stand there, or is none");
        for (int b = 0; b < 256; b++) {
            ChairFront x = new ChairFront(1);
            x.feed(b, 1);
            boolean blank = b == 32 || b == 10;
            DUE.is("byte " + b, x.rules(), blank ? 0 : -1000100);
            DUE.is("byte " + b + ": fault()", x.fault(), blank ? 0 : 1);
        }
    }

    /** Behind 'rain 6': figures go on, blanks end it, and all others stand where 'part' should. */
    private static void everyByteWithinALine() {
        DUE.says("1 it cannot stand there, or is none");
        for (int b = 0; b < 256; b++) {
            ChairFront x = new ChairFront(1);
            Due.feed(x, "rain 6");
            x.feed(b, 1);
            int answer = Due.rules(x, " part 5;");
            boolean blank = b == 32 || b == 10;
            boolean figure = b >= '0' && b <= '9';
            int want = blank || b == '0' ? 1 : figure ? -1000105 : -1000106;
            DUE.is("byte " + b, answer, want);
            DUE.is("byte " + b + ": fault()", x.fault(), want == 1 ? 0 : figure ? 2 : 1);
        }
    }

    private static void holdWords() {
        DUE.says("'hold' ( 'zone' | 'any' | 'place' ) ';'");
        for (String word : new String[] {"zone", "any", "place"}) {
            reads("hold " + word + ";", 1);
            faultAt("hold " + word.substring(1) + ";", 1, 5);
            faultAt("hold " + word.substring(0, word.length() - 1) + ";", 1, 5);
            faultAt("hold " + word + "s;", 1, 5);
            faultAt("hold " + word, 1, 5 + word.length());
            faultAt("hold " + word + " " + word + ";", 1, 6 + word.length());
            faultAt(word + ";", 1, 0);
        }
        for (String word : new String[] {"hold", "rain", "rent", "part", "5", ";", ""}) {
            faultAt("hold " + word, 1, 5);
        }
    }

    private static void lineWords() {
        DUE.says("'rain' NUMBER 'part' NUMBER ';' | 'rent' NUMBER 'part' NUMBER ';'");
        for (String word : new String[] {"rain", "rent"}) {
            reads(word + " 5 part 5;", 1);
            String[] tokens = {word, "5", "part", "5", ";"};
            String text = "";
            for (String token : tokens) {
                String ahead = text;
                for (String other : new String[] {"hold", "zone", "any", "place", "rain", "rent", "part", "7", ";", "!"}) {
                    boolean fits = other.equals(token) || other.equals("7") && token.equals("5");
                    boolean begins = ahead.isEmpty() && (other.equals("hold") || other.equals("rain") || other.equals("rent"));
                    if (!fits && !begins) {
                        faultAt(ahead + other, 1, ahead.length());
                    }
                }
                if (!ahead.isEmpty()) {
                    faultAt(ahead, 1, ahead.length());
                }
                text = ahead + token + " ";
            }
        }
    }

    private static void everyLetterOfAWord() {
        DUE.says("1 it cannot stand there (a word that differs by a letter)");
        String[][] texts = {{"", "hold", " any;"}, {"hold ", "zone", ";"}, {"hold ", "any", ";"}, {"hold ", "place", ";"},
            {"", "rain", " 5 part 5;"}, {"rain 5 ", "part", " 5;"}, {"", "rent", " 5 part 5;"}, {"rent 5 ", "part", " 5;"}};
        for (String[] t : texts) {
            reads(t[0] + t[1] + t[2], 1);
            for (int i = 0; i < t[1].length(); i++) {
                char other = t[1].charAt(i) == 'z' ? 'a' : (char) (t[1].charAt(i) + 1);
                String word = t[1].substring(0, i) + other + t[1].substring(i + 1);
                faultAt(t[0] + word + t[2], 1, t[0].length());
            }
        }
    }

    private static void rainMinutes() {
        DUE.says("RAIN lines: from so many minutes on (1 to 60); 2 a NUMBER that is not as told");
        faultAt("rain 0 part 5;", 2, 5);
        reads("rain 1 part 5;", 1);
        reads("rain 60 part 5;", 1);
        faultAt("rain 61 part 5;", 2, 5);
        faultAt("rain 100 part 5;", 2, 5);
        faultAt("rain 99999 part 5;", 2, 5);
    }

    private static void rainPart() {
        DUE.says("RAIN lines: .. a part by 100 (0 to 100)");
        reads("rain 5 part 0;", 1);
        reads("rain 5 part 100;", 1);
        faultAt("rain 5 part 101;", 2, 12);
        faultAt("rain 5 part 99999;", 2, 12);
    }

    private static void rentEnds() {
        DUE.says("RENT lines: up to so much of what came in (0 to 99999)");
        reads("rent 0 part 5;", 1);
        reads("rent 1 part 5;", 1);
        reads("rent 99999 part 5;", 1);
        faultAt("rent 100000 part 5;", 1, 5);
    }

    private static void rentPart() {
        DUE.says("RENT lines: .. a part by 100 (0 to 100)");
        reads("rent 5 part 0;", 1);
        reads("rent 5 part 100;", 1);
        faultAt("rent 5 part 101;", 2, 12);
        faultAt("rent 5 part 99999;", 2, 12);
    }

    private static void rentEndsRise() {
        DUE.says("each upper end above the one ahead");
        reads("rent 5 part 5;rent 6 part 5;", 2);
        faultAt("rent 5 part 5;rent 5 part 5;", 2, 19);
        faultAt("rent 5 part 5;rent 4 part 5;", 2, 19);
        reads("rent 0 part 5;rent 1 part 5;", 2);
        faultAt("rent 0 part 5;rent 0 part 5;", 2, 19);
        reads("rent 99998 part 5;rent 99999 part 5;", 2);
        faultAt("rent 99999 part 5;rent 99999 part 5;", 2, 23);
        faultAt("rent 5 part 5;rent 9 part 5;rent 9 part 5;", 2, 33);
        faultAt("rent 9 part 5;rent 10 part 5;rent 10 part 5;", 2, 34);
        faultAt("rent 5 part 5;hold any;rain 1 part 1;rent 5 part 5;", 2, 42);
        reads("rent 1 part 100;rent 2 part 0;rent 3 part 100;", 3);
        ChairFront x = new ChairFront(1);
        Due.rules(x, "rent 500 part 5;");
        DUE.is("the one ahead is of the same text", Due.rules(x, "rent 5 part 5;"), 1);
        Due.rules(x, "rent 900 part 5;rain 0");
        DUE.is("not of a faulty one", Due.rules(x, "rent 5 part 5;"), 1);
    }

    private static void rainNeedNotRise() {
        DUE.says("RENT lines: ..; each upper end above the one ahead (RAIN lines have none)");
        reads("rain 5 part 5;rain 5 part 5;rain 4 part 5;rain 60 part 5;rain 1 part 5;", 5);
    }

    private static void theEndIsHowManyBytes() {
        DUE.says("the end: how many bytes there are");
        faultAt("hold", 1, 4);
        faultAt("hold ", 1, 5);
        faultAt("hold \n ", 1, 7);
        faultAt("hold any", 1, 8);
        faultAt("hold any  ", 1, 10);
        faultAt("rain", 1, 4);
        faultAt("rain 5", 1, 6);
        faultAt("rain 5 part", 1, 11);
        faultAt("rain 5 part 5", 1, 13);
        faultAt("rent 5 part 5 ", 1, 14);
        faultAt("hold any;hold", 1, 13);
        faultAt(" ".repeat(296) + "hold", 1, 300);
        faultAt("hold" + " ".repeat(296), 1, 300);
    }

    private static void firstTokenThatHasOne() {
        DUE.says("FAULTS, the first TOKEN that has one (its first byte)");
        faultAt("rain 61 part 101 x", 2, 5);
        faultAt("rain 61 123456;", 2, 5);
        faultAt("rain x part 101;", 1, 5);
        faultAt("rain 5 part 101 101;", 2, 12);
        faultAt("rain 5 part 101", 2, 12);
        faultAt("rain 61", 2, 5);
        faultAt("hold any;rent 5 part 5;rent 4 part 101;", 2, 28);
        faultAt("  rain   00061 part 5;", 2, 9);
        faultAt("hold any;!hold any;?", 1, 9);
        faultAt(FIVE_RAIN + "rain 61 part 5;", 3, 70);
        faultAt(FIVE_RAIN + "rent 1 part 101;rain 1 part 1;", 2, 82);
    }

    private static void ofOneTokenTheLeast() {
        DUE.says("of one TOKEN the least: 1 it cannot stand there");
        faultAt("rain 5 101;", 1, 7);
        faultAt("hold 0;", 1, 5);
        faultAt("rain 5 part 5 999;", 1, 14);
        faultAt(FIVE_RAIN + "hold rain", 1, 75);
        faultAt(FIVE_RENT + "rent", 3, 70);
        faultAt(FIVE_RENT + "hold any rent", 1, 79);
    }

    private static void theSixthRainLine() {
        DUE.says("3 the 6th RAIN line .. (its word)");
        reads(FIVE_RAIN, 5);
        faultAt(FIVE_RAIN + "rain 6 part 6;", 3, 70);
        faultAt(FIVE_RAIN + "rain", 3, 70);
        faultAt(FIVE_RAIN + " \n rain;", 3, 73);
        faultAt(FIVE_RAIN + "rain 000000", 3, 70);
        reads(FIVE_RAIN + "hold any;rent 1 part 1;", 7);
        faultAt(FIVE_RAIN + "hold any;rent 1 part 1;rain 1 part 1;", 3, 93);
        faultAt(FIVE_RAIN + "rainy", 1, 70);
        faultAt(FIVE_RAIN + "part", 1, 70);
    }

    private static void theSixthRentLine() {
        DUE.says("3 .. the 6th RENT line (its word)");
        reads(FIVE_RENT, 5);
        faultAt(FIVE_RENT + "rent 6 part 6;", 3, 70);
        faultAt(FIVE_RENT + "rent", 3, 70);
        faultAt(FIVE_RENT + "\nrent 5 part 5;", 3, 71);
        reads(FIVE_RENT + "hold any;rain 1 part 1;", 7);
        faultAt(FIVE_RENT + "hold any;rain 1 part 1;rent 9 part 1;", 3, 93);
        reads(FIVE_RAIN + FIVE_RENT, 10);
        faultAt(FIVE_RAIN + FIVE_RENT + "rain 1 part 1;", 3, 140);
        faultAt(FIVE_RAIN + FIVE_RENT + "rent 9 part 1;", 3, 140);
    }

    private static void fiveAreCountedByText() {
        DUE.says("Promise 12: RULES are these from now on (five of each text, not of all)");
        ChairFront x = new ChairFront(1);
        for (int i = 0; i < 4; i++) {
            DUE.is("five and five", Due.rules(x, FIVE_RAIN + FIVE_RENT), 10);
        }
        DUE.is("a fault", Due.rules(x, FIVE_RAIN + "rain"), -1000170);
        DUE.is("five again", Due.rules(x, FIVE_RAIN), 5);
    }

    private static void linesAreCounted() {
        DUE.says("Promise 12: how many lines");
        reads("hold any;", 1);
        reads("hold any;hold any;", 2);
        reads("hold any;rain 1 part 1;rent 1 part 1;", 3);
        reads(FIVE_RAIN + FIVE_RENT + "hold any;".repeat(17), 27);
    }

    private static void whatTheTextDoesNotTell() {
        DUE.says("Promise 12: (what the text does not tell is as at first)");
        ChairFront x = new ChairFront(100);
        x.stretch(10, 0);
        x.stretch(10, 0);
        x.carry(NONE, 0, 10);
        x.carry(NONE, 1, 10);
        x.hire(0, 10, 12);
        String all = "hold zone;rain 1 part 50;rent 100 part 10;";
        Due.rules(x, all);
        Due.rules(x, "rain 1 part 50;rent 100 part 10;");
        DUE.is("no hold told", x.shift(0, 1), ChairFront.STATE);
        Due.rules(x, all);
        Due.rules(x, "hold zone;rent 100 part 10;");
        x.hour(0, 0, 60, 0);
        DUE.is("no rain told", x.count(9), 0);
        Due.rules(x, all);
        Due.rules(x, "hold zone;rain 1 part 50;");
        DUE.is("no rent told", x.rent(100), 0);
        Due.rules(x, all);
        DUE.is("nothing told", x.rules(), 0);
        DUE.is("no hold", x.shift(0, 1), ChairFront.STATE);
        DUE.is("no rent", x.rent(100), 0);
        x.hour(0, 0, 60, 0);
        DUE.is("no rain", x.count(9), 0);
        Due.rules(x, all);
        DUE.is("told again: hold", x.shift(0, 1), 1);
        DUE.is("told again: rent", x.rent(100), 10);
        x.hour(0, 0, 60, 0);
        DUE.is("told again: rain", x.count(9), 50);
    }

    private static void tapeIsEmptyAfterAFault() {
        DUE.says("Promise 12: The tape, empty then .. all but the tape, and what fault() tells, stays");
        ChairFront x = new ChairFront(1);
        DUE.is("a fault", Due.rules(x, "hold any;!"), -1000109);
        DUE.is("nothing to read", x.rules(), 0);
        DUE.is("a fault", Due.rules(x, "!" + " ".repeat(299)), -1000100);
        DUE.is("room for all", Due.feed(x, " ".repeat(300)), 300);
    }

    private static void faultBeforeOne() {
        DUE.says("Promise 13: 0 before one");
        ChairFront x = new ChairFront(1);
        DUE.is("at first", x.fault(), 0);
        Due.feed(x, "!");
        DUE.is("fed, not read", x.fault(), 0);
        x.rules();
        DUE.is("read", x.fault(), 1);
        ChairFront y = new ChairFront(1);
        y.rules();
        Due.rules(y, "hold any;");
        DUE.is("without a fault", y.fault(), 0);
        DUE.is("a refused call is no fault", y.feed(0, 0) == BAD ? y.fault() : NONE, 0);
    }

    private static void faultIsTheLatest() {
        DUE.says("Promise 13: The number of the latest FAULT");
        ChairFront x = new ChairFront(1);
        Due.rules(x, "rain 0");
        DUE.is("2", x.fault(), 2);
        Due.rules(x, FIVE_RENT + "rent");
        DUE.is("3", x.fault(), 3);
        Due.rules(x, "?");
        DUE.is("1", x.fault(), 1);
        Due.rules(x, "rain 61");
        DUE.is("2 again", x.fault(), 2);
        Due.rules(x, "hold any;");
        DUE.is("still the latest", x.fault(), 2);
    }
}
