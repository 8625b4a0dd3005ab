/** The edges of promises 18 and 19 and of their terms, a sentence of the document each. */
public final class TextEdgesTest {
    private static final Due DUE = new Due();
    private static final String SIGNS = "()<=+-;";
    private static final String LINE = "star 1 when 1;";
    private static final String[] TOKENS = {"star", "when", "and", "marks", "mean", "least", "greatest",
        "facts", "paid", "1", "(", ")", "<", "=", "+", "-", ";", "word", "12345", "~"};
    private static final String PARTS = " 1 marks mean least greatest facts paid ( ";

    public static void main(String[] args) {
        twentyFourSigns();
        highestFirst();
        signsOfTheTape();
        leftOutAmongOthers();
        sixHundredSigns();
        beyondSixHundred();
        emptyThen();
        blanks();
        asLongAsCanBe();
        words();
        letters();
        numbers();
        digits();
        letterBehindANumber();
        signs();
        noTokens();
        sixteenLines();
        sixteenthLine();
        emptyText();
        fullText();
        firstNumber();
        partsThatStand();
        oneComparison();
        anyMore();
        fivePartsWithin();
        fiveOthersAround();
        placesOfFaults();
        theEnd();
        firstFromTheLeft();
        theLeast();
        seventeenthLine();
        eachTokenMissing();
        whatCanStandThere();
        inPlaceOfTheOneThereWas();
        DUE.end();
    }

    private static void twentyFourSigns() {
        DUE.sentence("Up to 24 signs come behind the TAPE .. how many there are");
        GuideBook book = new GuideBook();
        DUE.is("none", book.feed(0, 0, 0), 0);
        DUE.is("24", feed24(book, "abcdefghijklmnopqrstuvwx"), 24);
        DUE.is("none more", book.feed(0, 0, 0), 24);
        DUE.is("1 more", book.feed(0, 0, 'a'), 25);
        DUE.is("1 more", book.feed((long) 'a' << 56, 0, 0), 26);
        DUE.is("24 more", feed24(book, "abcdefghijklmnopqrstuvwx"), 50);
        DUE.is("signs on the TAPE", book.count(6), 50);
    }

    private static void highestFirst() {
        DUE.sentence("the bytes of a, b, c, of each the highest first");
        String line = "star 3 when 1=1and 2=2 ;";
        GuideBook book = new GuideBook();
        DUE.is("24 signs", feed24(book, line), 24);
        DUE.is("text()", book.text(), 0);
        DUE.is("stars(0)", book.stars(0), 3);
        GuideBook apart = new GuideBook();
        for (int at = 0; at < line.length(); at++) {
            long sign = (long) line.charAt(at) << 8 * (at % 8);
            int due = at + 1;
            DUE.is("one by one", at % 2 == 0 ? apart.feed(sign, 0, 0) : apart.feed(0, sign, 0), due);
        }
        DUE.is("text()", apart.text(), 0);
        DUE.is("stars(0)", apart.stars(0), 3);
    }

    private static void signsOfTheTape() {
        DUE.sentence("others than 10 and 32 .. 126 .. are left out");
        for (long sign = 0; sign < 256; sign++) {
            int due = sign == 10 || sign >= 32 && sign <= 126 ? 1 : 0;
            GuideBook book = new GuideBook();
            DUE.is("sign " + sign + " alone, lowest", book.feed(0, 0, sign), due);
            DUE.is("sign " + sign + ", highest", book.feed(sign << 56, 0, 0), 2 * due);
            DUE.is("sign " + sign + ", in b", book.feed(0, sign << 24, 0), 3 * due);
        }
        GuideBook book = new GuideBook();
        DUE.is("all 255", book.feed(-1, -1, -1), 0);
        DUE.is("the least long", book.feed(Long.MIN_VALUE, Long.MIN_VALUE, Long.MIN_VALUE), 0);
        DUE.is("the greatest long", book.feed(Long.MAX_VALUE, 0, 0), 0);
    }

    private static void leftOutAmongOthers() {
        DUE.sentence("others .. are left out");
        GuideBook book = new GuideBook();
        DUE.is("12 of 24", feed24(book, "\0s\tt\u000ba\rr\u001f \u007f5\u0080 \u00ffw\0h\0e\0n\0 "), 12);
        DUE.is("2 of 4", feed24(book, "\u00011\u009b;"), 14);
        DUE.is("nothing stands where they were", book.text(), 0);
        DUE.is("stars(0)", book.stars(0), 5);
    }

    private static void sixHundredSigns() {
        DUE.sentence("The TAPE has at most 600 signs");
        GuideBook book = new GuideBook();
        for (int n = 1; n <= 25; n++) {
            DUE.is("feed " + n, feed24(book, " ".repeat(24)), 24 * n);
        }
        DUE.is("a 601st", book.feed(' ', 0, 0), 600);
        DUE.is("24 more", feed24(book, "x".repeat(24)), 600);
        DUE.is("signs on the TAPE", book.count(6), 600);
        DUE.is("600 blanks", book.text(), 0);
        DUE.is("599 signs", Signs.feed(book, "x".repeat(599)), 599);
        DUE.is("the 600th", book.feed(' ', 0, 0), 600);
    }

    private static void beyondSixHundred() {
        DUE.sentence("what is beyond 600, are left out");
        GuideBook book = new GuideBook();
        Signs.feed(book, " ".repeat(586));
        DUE.is("14 of 24 signs", feed24(book, LINE + "xxxxxxxxxx"), 600);
        DUE.is("the first ones were taken", book.text(), 0);
        DUE.is("lines", book.count(5), 1);
        Signs.feed(book, " ".repeat(587));
        DUE.is("13 of 14 signs", feed24(book, LINE), 600);
        DUE.is("the last one is missing", book.text(), 1 + 16 * 600);
        Signs.feed(book, " ".repeat(599));
        DUE.is("others leave room", feed24(book, "\0\0\0\0\0\0\0\0\0\0\0\0\0~x"), 600);
        DUE.is("the sign behind them was taken", book.text(), 1 + 16 * 599);
    }

    private static void emptyThen() {
        DUE.sentence("what reads it takes it: it is empty then");
        GuideBook book = new GuideBook();
        DUE.is("a text", Signs.read(book, LINE), 0);
        DUE.is("signs on the TAPE", book.count(6), 0);
        DUE.is("a FAULT", Signs.read(book, "x"), 1);
        DUE.is("signs on the TAPE", book.count(6), 0);
        DUE.is("feed behind it", book.feed('s', 0, 0), 1);
        DUE.is("the sign alone", book.text(), 1);
        Signs.feed(book, " ".repeat(600));
        book.text();
        DUE.is("a full one was taken", book.count(6), 0);
        DUE.is("600 again", Signs.feed(book, "x".repeat(600)), 600);
        book.edition();
        book.stars(0);
        DUE.is("nothing else takes it", book.count(6), 600);
    }

    private static void blanks() {
        DUE.sentence("blanks (10, 32) between where one likes");
        reads("star1when1;star2when2;", 0);
        reads("\n star \n\n 1  when\n1 \n; \nstar 2 when(1)\n", 1 + 16 * 39);
        reads(" \nstar 1 when ( 1 + ( 2 ) ) < 3 and\n4 ; ", 0);
        reads("star1when(1+(2))<3and4;", 0);
        reads("st ar 1 when 1;", 1);
        reads("star 1 wh\nen 1;", 1 + 16 * 7);
        reads("star 1 when 1 2;", 1 + 16 * 14);
    }

    private static void asLongAsCanBe() {
        DUE.sentence("TOKENS, each as long as can be");
        reads("star 1 when 1 andmarks;", 1 + 16 * 14);
        reads("star 1 when marksmean;", 1 + 16 * 12);
        reads("star 1 when paid1;", 1 + 16 * 16);
        reads("star 1 when paid and1;", 0);
        reads("star 12 when 1;", 4 + 16 * 5);
        reads("starwhen 1 when 1;", 1);
    }

    private static void words() {
        DUE.sentence("WORDS (letters a .. z, 8 at most) .. a longer WORD .. at its first sign");
        String[] known = {"marks", "mean", "least", "greatest", "facts", "paid"};
        for (String word : known) {
            reads("star 1 when " + word + ";", 0);
            reads("star 1 when " + word + "s;", 1 + 16 * 12);
            reads("star 1 when a" + word + ";", 1 + 16 * 12);
            reads("star 1 when " + word.substring(1) + ";", 1 + 16 * 12);
            reads("star 1 when " + word.substring(0, word.length() - 1) + ";", 1 + 16 * 12);
            reads("star 1 when z" + word.substring(1) + ";", 1 + 16 * 12);
        }
        reads("star 1 when abcdefgh;", 1 + 16 * 12);
        reads("star 1 when abcdefghi;", 1 + 16 * 12);
        reads("star 1 when greatestgreatest;", 1 + 16 * 12);
        reads("star 1 when 1 greatestand;", 1 + 16 * 14);
        reads("star 1 when " + "a".repeat(588), 1 + 16 * 12);
    }

    private static void letters() {
        DUE.sentence("letters a .. z");
        reads("star 1 when paid`;", 1 + 16 * 16);
        reads("star 1 when paid{;", 1 + 16 * 16);
        reads("star 1 when paida;", 1 + 16 * 12);
        reads("star 1 when paidz;", 1 + 16 * 12);
        reads("star 1 when paidA;", 1 + 16 * 16);
        reads("star 1 when paidZ;", 1 + 16 * 16);
        reads("star 1 when Paid;", 1 + 16 * 12);
        reads("star 1 when paiD;", 1 + 16 * 12);
        reads("STAR 1 when 1;", 1);
    }

    private static void numbers() {
        DUE.sentence("NUMBERS (1 to 4 digits ..) .. a longer .. NUMBER, too, at its first sign");
        reads("star 1 when 0;", 0);
        reads("star 1 when 9999;", 0);
        reads("star 1 when 0000;", 0);
        reads("star 1 when 10000;", 1 + 16 * 12);
        reads("star 1 when 00000;", 1 + 16 * 12);
        reads("star 0005 when 1;", 0);
        reads("star 00005 when 1;", 1 + 16 * 5);
        reads("star 1 when 12345678;", 1 + 16 * 12);
        reads("star 1 when " + "9".repeat(588), 1 + 16 * 12);
        gives("9999 = 9998 + 1", 1);
        gives("0010 = 10", 1);
        gives("1234 = 1000 + 200 + 30 + 4", 1);
    }

    private static void digits() {
        DUE.sentence("NUMBERS (1 to 4 digits)");
        for (int digit = 0; digit <= 9; digit++) {
            reads("star 1 when " + digit + ";", 0);
            gives(digit + " = " + (digit + 1) + " - 1", 1);
        }
        reads("star 1 when 1/;", 1 + 16 * 13);
        reads("star 1 when 1:;", 1 + 16 * 13);
    }

    private static void letterBehindANumber() {
        DUE.sentence("a letter may stand right behind");
        reads("star 1when 1and 2;", 0);
        reads("star 1 when 1234and 1;", 0);
        reads("star 1 when 12345and 1;", 1 + 16 * 12);
        reads("star 1 when 1x;", 1 + 16 * 13);
        reads("star 1 when 1andpaid;", 1 + 16 * 13);
    }

    private static void signs() {
        DUE.sentence("the signs ( ) < = + - and the semicolon");
        reads("star 1 when (1);", 0);
        reads("star 1 when 1<1;", 0);
        reads("star 1 when 1=1;", 0);
        reads("star 1 when 1+1;", 0);
        reads("star 1 when 1-1;", 0);
        reads("star 1 when 1<=1;", 1 + 16 * 14);
        reads("star 1 when 1==1;", 1 + 16 * 14);
        reads("star 1 when 1--1;", 1 + 16 * 14);
        reads("star 1 when -1;", 1 + 16 * 12);
        reads("star 1 when +1;", 1 + 16 * 12);
    }

    private static void noTokens() {
        DUE.sentence("All else .. is none");
        for (char sign = 33; sign <= 126; sign++) {
            boolean letterOrDigit = sign >= 'a' && sign <= 'z' || sign >= '0' && sign <= '9';
            if (!letterOrDigit && SIGNS.indexOf(sign) < 0) {
                reads(sign + LINE, 1);
                reads("star" + sign + "1 when 1;", 1 + 16 * 4);
                reads("star 1" + sign + "when 1;", 1 + 16 * 6);
                reads("star 1 when " + sign + "1;", 1 + 16 * 12);
                reads("star 1 when paid" + sign + "1;", 1 + 16 * 16);
                reads("star 1 when 1" + sign, 1 + 16 * 13);
                reads(LINE + sign, 1 + 16 * 14);
            }
        }
    }

    private static void sixteenLines() {
        DUE.sentence("TEXT: 16 lines at most");
        for (int lines = 0; lines <= 16; lines++) {
            GuideBook book = new GuideBook();
            DUE.is(lines + " lines", Signs.read(book, LINE.repeat(lines)), 0);
            DUE.is("lines of the text", book.count(5), lines);
        }
        GuideBook book = new GuideBook();
        DUE.is("17 lines", Signs.read(book, LINE.repeat(17)), 5 + 16 * 16 * 14);
        DUE.is("lines of the text", book.count(5), 0);
    }

    private static void sixteenthLine() {
        DUE.sentence("the first line whose E is not 0 (of 16)");
        GuideBook book = new GuideBook();
        String never = "star 1 when 0;".repeat(15);
        DUE.is("16 lines", Signs.read(book, never + "star 5 when facts;"), 0);
        DUE.is("none holds", book.stars(0), 0);
        book.fact(0, 0, 0);
        DUE.is("the 16th holds", book.stars(0), 5);
    }

    private static void emptyText() {
        DUE.sentence("TEXT: 16 lines at most (none at all)");
        reads("", 0);
        reads(" ", 0);
        reads("\n", 0);
        reads(" \n".repeat(300), 0);
        GuideBook book = new GuideBook();
        Signs.read(book, LINE);
        DUE.is("an empty TAPE", book.text(), 0);
        DUE.is("lines of the text", book.count(5), 0);
        DUE.is("stars(0)", book.stars(0), 0);
    }

    private static void fullText() {
        DUE.sentence("The TAPE has at most 600 signs .. The TAPE is read as a TEXT");
        GuideBook book = new GuideBook();
        String sum = "1" + "+1".repeat(290);
        String full = "star 2when" + sum + "=291;    ";
        DUE.is("600 signs", Signs.feed(book, full), 600);
        DUE.is("text()", book.text(), 0);
        DUE.is("stars(0)", book.stars(0), 2);
        DUE.is("600 signs again", Signs.feed(book, full.replace("=291", "=292")), 600);
        DUE.is("text()", book.text(), 0);
        DUE.is("stars(0)", book.stars(0), 0);
        String differences = "star 3when" + "1" + "-1".repeat(290) + "<0   ;   ";
        DUE.is("600 signs", Signs.feed(book, differences), 600);
        DUE.is("text()", book.text(), 0);
        DUE.is("stars(0)", book.stars(0), 3);
        String ands = "star 4when 1" + "and 1".repeat(117) + " ;";
        DUE.is("599 signs", Signs.feed(book, ands), 599);
        DUE.is("text()", book.text(), 0);
        DUE.is("stars(0)", book.stars(0), 4);
        DUE.is("600 signs, no room for the semicolon",
            Signs.read(book, "star 2when" + sum + "+9999+1234;"), 1 + 16 * 600);
        DUE.is("600 tokens", Signs.read(book, "(".repeat(600)), 1);
        DUE.is("600 tokens", Signs.read(book, ";".repeat(600)), 1);
    }

    private static void firstNumber() {
        DUE.sentence("The first N is 0 to 5. .. 4 a star above 5");
        for (int stars = 0; stars <= 5; stars++) {
            GuideBook book = new GuideBook();
            DUE.is("star " + stars, Signs.read(book, "star " + stars + " when 1;"), 0);
            DUE.is("stars(0)", book.stars(0), stars);
        }
        reads("star 6 when 1;", 4 + 16 * 5);
        reads("star 10 when 1;", 4 + 16 * 5);
        reads("star 9999 when 1;", 4 + 16 * 5);
        reads("star 0006 when 1;", 4 + 16 * 5);
        reads("star 5 when 6;", 0);
        reads(LINE + "star 6 when 1;", 4 + 16 * 19);
        reads("star -1 when 1;", 1 + 16 * 5);
        reads("star (1) when 1;", 1 + 16 * 5);
        reads("star paid when 1;", 1 + 16 * 5);
    }

    private static void partsThatStand() {
        DUE.sentence("PART: N, marks, mean, least, greatest, facts, paid, ( E )");
        String[] parts = {"1", "marks", "mean", "least", "greatest", "facts", "paid", "(1)"};
        for (String part : parts) {
            reads("star 1 when " + part + ";", 0);
            reads("star 1 when 1 + " + part + ";", 0);
            reads("star 1 when 1 < " + part + ";", 0);
            reads("star 1 when 1 and " + part + ";", 0);
            reads("star 1 when (" + part + ");", 0);
            reads("star 1 when " + part + " " + part + ";", 1 + 16 * (13 + part.length()));
        }
        String[] none = {"star", "when", "and", ")", "<", "=", "+", "-", ";", "word"};
        for (String token : none) {
            reads("star 1 when " + token + " 1;", 1 + 16 * 12);
            reads("star 1 when (" + token + " 1);", 1 + 16 * 13);
            reads("star 1 when 1 + " + token + ";", 1 + 16 * 16);
            reads("star 1 when 1 and " + token + ";", 1 + 16 * 18);
            reads("star 1 when 1 = " + token + ";", 1 + 16 * 16);
        }
    }

    private static void oneComparison() {
        DUE.sentence("TEST: SUM [ < SUM or = SUM ]");
        reads("star 1 when 1 < 2 < 3;", 1 + 16 * 18);
        reads("star 1 when 1 = 2 < 3;", 1 + 16 * 18);
        reads("star 1 when 1 < 2 = 3;", 1 + 16 * 18);
        reads("star 1 when 1 = 2 + 2 = 3;", 1 + 16 * 22);
        reads("star 1 when 1 < 2 and 1 = 2 and 1 < 2;", 0);
        reads("star 1 when (1 < 2) < 3;", 0);
        reads("star 1 when 1 < (2 = 3);", 0);
        reads("star 1 when 1 < (2 = 3) = 1;", 1 + 16 * 24);
    }

    private static void anyMore() {
        DUE.sentence("(The { } are for \"any more\".)");
        reads("star 1 when 1 and 1 and 1 and 1 and 1 and 1 and 1 and 1;", 0);
        reads("star 1 when 1 + 1 - 1 + 1 - 1 + 1 - 1 + 1 - 1;", 0);
        reads("star 1 when 1 and;", 1 + 16 * 17);
        reads("star 1 when 1 -;", 1 + 16 * 15);
        reads("star 1 when 1 and and 1;", 1 + 16 * 18);
    }

    private static void fivePartsWithin() {
        DUE.sentence("5 within one another");
        reads("star 1 when ((((1))));", 0);
        reads("star 1 when ((((paid))));", 0);
        reads("star 1 when 1 + ((((1))));", 0);
        reads("star 1 when 1 < ((((1))));", 0);
        reads("star 1 when 1 and ((((1))));", 0);
        reads("star 1 when ((((1 + 1 < 1 and 1))));", 0);
        reads("star 1 when ((((1)))) + ((((1)))) = ((((1)))) and ((((1))));", 0);
        reads("star 1 when (1 + (1 < (1 and (1))));", 0);
        reads("star 1 when ((((1))));star 1 when ((((1))));", 0);
    }

    private static void fiveOthersAround() {
        DUE.sentence("5 .. a PART within 5 others");
        String[] parts = {"1", "marks", "mean", "least", "greatest", "facts", "paid", "(1)"};
        for (String part : parts) {
            reads("star 1 when (((((" + part + ")))));", 5 + 16 * 17);
        }
        reads("star 1 when 1 + (((((1)))));", 5 + 16 * 21);
        reads("star 1 when 1 and 1 < (((((1)))));", 5 + 16 * 27);
        reads("star 1 when ((((1 + (1)))));", 5 + 16 * 21);
        reads("star 1 when ((((1))) + (((1))));", 0);
        reads("star 1 when ((((1))) + ((((1)))));", 5 + 16 * 27);
        reads("star 1 when ((((1)))) and (((((1)))));", 5 + 16 * 31);
        reads("star 1 when " + "(".repeat(588), 5 + 16 * 17);
    }

    private static void placesOfFaults() {
        DUE.sentence("kind + 16 * the place (from 0) of a token");
        reads("x", 1);
        reads(" x", 1 + 16);
        reads("\n\nx", 1 + 32);
        reads("xyz xyz", 1);
        reads(" ".repeat(599) + "x", 1 + 16 * 599);
        reads(" ".repeat(594) + "star 6", 4 + 16 * 599);
        reads(" ".repeat(582) + "star 1 when (((((1", 5 + 16 * 599);
        reads(LINE.repeat(16) + " ".repeat(372) + "star", 5 + 16 * 596);
    }

    private static void theEnd() {
        DUE.sentence("the end being one at the text's length");
        reads("star", 1 + 16 * 4);
        reads("star ", 1 + 16 * 5);
        reads("star\n\n", 1 + 16 * 6);
        reads("star 1", 1 + 16 * 6);
        reads("star 1 when", 1 + 16 * 11);
        reads("star 1 when 1", 1 + 16 * 13);
        reads("star 1 when (1", 1 + 16 * 14);
        reads("star 1 when 1+", 1 + 16 * 14);
        reads("star 1 when 1<", 1 + 16 * 14);
        reads("star 1 when 1and", 1 + 16 * 16);
        reads("star 1 when (", 1 + 16 * 13);
        reads("star" + " ".repeat(596), 1 + 16 * 600);
        reads("star1when1" + "+1".repeat(295), 1 + 16 * 600);
    }

    private static void firstFromTheLeft() {
        DUE.sentence("of the first token from the left that is wrong");
        reads("star 6 when ~;", 4 + 16 * 5);
        reads("star ~ when 6;", 1 + 16 * 5);
        reads("~ star 6", 1);
        reads("star 1 when (((((1))))) ~", 5 + 16 * 17);
        reads("star 1 when 12345 (((((1)))))", 1 + 16 * 12);
        reads("star 6 when (((((1)))));", 4 + 16 * 5);
        reads(LINE.repeat(15) + "star 6 when 1;" + LINE, 4 + 16 * 215);
        reads(LINE.repeat(16) + "star 6 when ~", 5 + 16 * 224);
    }

    private static void theLeast() {
        DUE.sentence("of the first token .. that is wrong the least");
        reads("star 99999 when 1;", 1 + 16 * 5);
        reads("star 1 when (((((12345)))));", 1 + 16 * 17);
        reads("star 1 when (((((~)))));", 1 + 16 * 17);
        reads("star 1 when ((((()))));", 1 + 16 * 17);
        reads("star 1 when (((((and", 1 + 16 * 17);
        reads("star 1 when (((((", 1 + 16 * 17);
        reads(LINE.repeat(16) + "~", 1 + 16 * 224);
        reads(LINE.repeat(16) + "stars", 1 + 16 * 224);
        reads(LINE.repeat(16) + "1", 1 + 16 * 224);
        reads(LINE.repeat(16) + ";", 1 + 16 * 224);
    }

    private static void seventeenthLine() {
        DUE.sentence("5 a 17th line (at its first token)");
        reads(LINE.repeat(16) + "star", 5 + 16 * 224);
        reads(LINE.repeat(16) + "  \n star 1 when 1;", 5 + 16 * 228);
        reads(LINE.repeat(40), 5 + 16 * 224);
        reads(LINE.repeat(16) + " \n ", 0);
    }

    private static void eachTokenMissing() {
        DUE.sentence("star N when E ;");
        reads("1 when 1;", 1);
        reads("star when 1;", 1 + 16 * 5);
        reads("star 1 1;", 1 + 16 * 7);
        reads("star 1 when;", 1 + 16 * 11);
        reads("star 1 when 1 star 1 when 1;", 1 + 16 * 14);
        reads("star 1 when 1;;", 1 + 16 * 14);
        reads(";" + LINE, 1);
        reads("when 1 star 1;", 1);
        reads("star 1 when (1;", 1 + 16 * 14);
        reads("star 1 when 1);", 1 + 16 * 13);
        reads("star 1 when (1));", 1 + 16 * 15);
    }

    private static void whatCanStandThere() {
        DUE.sentence("1 it is none, or can't stand there");
        stand("", " star ");
        stand(LINE, " star ");
        stand("star ", " 1 ");
        stand("star 1 ", " when ");
        stand("star 1 when ", PARTS);
        stand("star 1 when 1 ", " < = + - and ; ");
        stand("star 1 when 1 + ", PARTS);
        stand("star 1 when 1 - ", PARTS);
        stand("star 1 when 1 - 1 ", " < = + - and ; ");
        stand("star 1 when 1 < ", PARTS);
        stand("star 1 when 1 = ", PARTS);
        stand("star 1 when 1 < 1 ", " + - and ; ");
        stand("star 1 when 1 = 1 + 1 ", " + - and ; ");
        stand("star 1 when 1 and ", PARTS);
        stand("star 1 when 1 < 1 and 1 ", " < = + - and ; ");
        stand("star 1 when ( ", PARTS);
        stand("star 1 when ( paid ", " < = + - and ) ");
        stand("star 1 when ( paid = 1 ", " + - and ) ");
        stand("star 1 when 1 = ( paid ", " < = + - and ) ");
        stand("star 1 when ( paid ) ", " < = + - and ; ");
        stand("star 1 when 1 = ( paid = 1 ) ", " + - and ; ");
        stand("star 1 when ( ( paid ) ", " < = + - and ) ");
    }

    /** Behind such a beginning these tokens can stand: the end is wrong then, if anything is. */
    private static void stand(String beginning, String allowed) {
        for (String token : TOKENS) {
            String text = beginning + token;
            if (!allowed.contains(" " + token + " ")) {
                reads(text, 1 + 16 * beginning.length());
            } else {
                reads(text, token.equals(";") ? 0 : 1 + 16 * text.length());
            }
        }
    }

    private static void inPlaceOfTheOneThereWas() {
        DUE.sentence("in place of the one there was: 0, or its FAULT");
        GuideBook book = new GuideBook();
        DUE.is("two lines", Signs.read(book, "star 2 when 1; star 3 when 1;"), 0);
        DUE.is("one line", Signs.read(book, "star 4 when 1;"), 0);
        DUE.is("lines of the text", book.count(5), 1);
        DUE.is("stars(0)", book.stars(0), 4);
        // The document leaves open what a FAULT makes of the text there was: it stays here.
        DUE.is("a FAULT in its second line", Signs.read(book, "star 5 when 1; star"), 1 + 16 * 19);
        DUE.is("lines of the text", book.count(5), 1);
        DUE.is("stars(0)", book.stars(0), 4);
    }

    private static int feed24(GuideBook book, String signs) {
        return book.feed(Signs.eight(signs, 0), Signs.eight(signs, 8), Signs.eight(signs, 16));
    }

    private static void reads(String text, int fault) {
        GuideBook book = new GuideBook();
        DUE.is("text of \"" + text + "\"", Signs.read(book, text), fault);
        DUE.is("the TAPE behind \"" + text + "\"", book.count(6), 0);
    }

    private static void gives(String expression, int stars) {
        GuideBook book = new GuideBook();
        DUE.is(expression, Signs.read(book, "star 1 when " + expression + ";"), 0);
        DUE.is(expression, book.stars(0), stars);
    }
}
