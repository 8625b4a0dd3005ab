/** Promises 18 to 20: feed, text, stars. */
public final class TextTest {
    private static final Due DUE = new Due();

    public static void main(String[] args) {
        feeds();
        fullTape();
        tokens();
        misplaced();
        ends();
        starsAboveFive();
        linesBeyondSixteen();
        partsWithinParts();
        theFirstWrongToken();
        textsInPlace();
        values();
        lines();
        longSums();
        deepest();
        DUE.end();
    }

    private static void feeds() {
        GuideBook book = new GuideBook();
        DUE.is("nothing", book.feed(0, 0, 0), 0);
        DUE.is("other signs", book.feed(-1, 0x1F7F80FF0B0D0900L, Long.MIN_VALUE), 0);
        DUE.is("10, 32 and 126", book.feed(0x0A00207E00000000L, 0, 0), 3);
        DUE.is("24 more", book.feed(0x2020202020202020L, 0x2020202020202020L,
            0x2020202020202020L), 27);
        DUE.is("count(6)", book.count(6), 27);
        DUE.is("~ at 2", book.text(), 1 + 16 * 2);
        DUE.is("the tape is taken", book.count(6), 0);

        GuideBook order = new GuideBook();
        order.feed(Signs.eight("star 3 w", 0), Signs.eight("hen", 0), Signs.eight(" 1;", 0));
        DUE.is("the highest byte first, a, b, c", order.text(), 0);
        DUE.is("stars", order.stars(0), 3);
    }

    private static void fullTape() {
        GuideBook book = new GuideBook();
        String blanks = " ".repeat(599);
        DUE.is("599", Signs.feed(book, blanks), 599);
        DUE.is("the 600th alone is taken", book.feed(Signs.eight("x;star 1", 0), 0, 0), 600);
        DUE.is("no more", book.feed(Signs.eight("x", 0), 0, 0), 600);
        DUE.is("x at 599", book.text(), 1 + 16 * 599);
        Signs.feed(book, " ".repeat(597));
        Signs.feed(book, "star 1 when 1;");
        DUE.is("sta at 597", book.text(), 1 + 16 * 597);
        DUE.is("600 tokens", Signs.read(book, ";".repeat(600)), 1);
        DUE.is("600 tokens", Signs.read(book, "star1when" + "1+".repeat(295) + "1"), 1 + 16 * 600);
        DUE.is("600 blanks", Signs.read(book, " ".repeat(600)), 0);
        DUE.is("star and 596 blanks: the end", Signs.read(book, "star" + " ".repeat(596)),
            1 + 16 * 600);
    }

    private static void tokens() {
        reads("star1when1;", 0);
        reads("star 1when 1and 2;", 0);
        reads("star\n1\nwhen\n1\n;\n", 0);
        reads("  star 5 when 1<(greatest=1)+(least-9999)and(marks)and mean and facts and paid;", 0);
        reads("star 0005 when 0000;", 0);
        reads("star 00005 when 1;", 1 + 16 * 5);
        reads("star 1 when 10000;", 1 + 16 * 12);
        reads("star 1 when 9999;", 0);
        reads("star 1 when greatests;", 1 + 16 * 12);
        reads("star 1 when abcdefghijklmnop;", 1 + 16 * 12);
        reads("star 1 when mark;", 1 + 16 * 12);
        reads("starstar 1 when 1;", 1);
        reads("starz 1 when 1;", 1);
        reads("tar 1 when 1;", 1);
        reads("xtar 1 when 1;", 1);
        reads("star 1 when azpaid;", 1 + 16 * 12);
        reads("Star 1 when 1;", 1);
        reads("star 1 when 1 > 2;", 1 + 16 * 14);
        reads("star 1 when 1 * 2;", 1 + 16 * 14);
        reads("star 1 when 1 12345;", 1 + 16 * 14);
        reads("star 1 when 1andpaid;", 1 + 16 * 13);
        reads("star 1 when 1 & 2;", 1 + 16 * 14);
        reads("star 1 when mean2;", 1 + 16 * 16);
    }

    private static void misplaced() {
        reads("1", 1);
        reads(";", 1);
        reads("when", 1);
        reads("star star", 1 + 16 * 5);
        reads("star 1 1", 1 + 16 * 7);
        reads("star 1 when ;", 1 + 16 * 12);
        reads("star 1 when star;", 1 + 16 * 12);
        reads("star 1 when and;", 1 + 16 * 12);
        reads("star 1 when - 1;", 1 + 16 * 12);
        reads("star 1 when 1 + ;", 1 + 16 * 16);
        reads("star 1 when 1 + + 1;", 1 + 16 * 16);
        reads("star 1 when 1 < ;", 1 + 16 * 16);
        reads("star 1 when 1 = 1 < 1;", 1 + 16 * 18);
        reads("star 1 when (1 = 1) < 1;", 0);
        reads("star 1 when 1 = 1 and 1 < 2;", 0);
        reads("star 1 when 1 paid;", 1 + 16 * 14);
        reads("star 1 when (1;", 1 + 16 * 14);
        reads("star 1 when ();", 1 + 16 * 13);
        reads("star 1 when 1);", 1 + 16 * 13);
        reads("star 1 when 1;;", 1 + 16 * 14);
        reads("star 1 when 1; 2", 1 + 16 * 15);
    }

    private static void ends() {
        reads("", 0);
        reads(" \n ", 0);
        reads("star", 1 + 16 * 4);
        reads("star ", 1 + 16 * 5);
        reads("star 1", 1 + 16 * 6);
        reads("star 1 when", 1 + 16 * 11);
        reads("star 1 when 1  \n", 1 + 16 * 16);
        reads("star 1 when (1", 1 + 16 * 14);
        reads("star 1 when 1 and", 1 + 16 * 17);
    }

    private static void starsAboveFive() {
        reads("star 5 when 1;", 0);
        reads("star 0 when 1;", 0);
        reads("star 6 when 1;", 4 + 16 * 5);
        reads("star 9999 when 1;", 4 + 16 * 5);
        reads("star 99999 when 1;", 1 + 16 * 5);
        reads("star 1 when 1; star 6 what", 4 + 16 * 20);
        reads("star -1 when 1;", 1 + 16 * 5);
    }

    private static void linesBeyondSixteen() {
        String line = "star 1 when 1;";
        String sixteen = line.repeat(16);
        reads(sixteen, 0);
        reads(sixteen + " " + line, 5 + 16 * 225);
        reads(sixteen + "star", 5 + 16 * 224);
        reads(sixteen + "stars", 1 + 16 * 224);
        reads(sixteen + ";", 1 + 16 * 224);
        reads(sixteen + "123456", 1 + 16 * 224);
        reads(sixteen + "  ", 0);
    }

    private static void partsWithinParts() {
        reads("star 1 when ((((1))));", 0);
        reads("star 1 when (((((1)))));", 5 + 16 * 17);
        reads("star 1 when (((((paid)))));", 5 + 16 * 17);
        reads("star 1 when ((((((1))))));", 5 + 16 * 17);
        reads("star 1 when ((((()))));", 1 + 16 * 17);
        reads("star 1 when (((((and))));", 1 + 16 * 17);
        reads("star 1 when (((((12345", 1 + 16 * 17);
        reads("star 1 when (((((", 1 + 16 * 17);
        reads("star 1 when ((((1)+((1)))));", 5 + 16 * 21);
        reads("star 1 when ((((1)+(1))));", 0);
        reads("star 1 when (((1)+(1)+((1))));", 0);
        reads("star 1 when ((((1)))) and ((((1))));", 0);
        reads("star 1 when ((((1)))) and (((((1)))));", 5 + 16 * 31);
    }

    private static void theFirstWrongToken() {
        reads("star 6 when 12345 ~", 4 + 16 * 5);
        reads("star 1 when ~ 12345; star 6", 1 + 16 * 12);
        reads("star 1 when (((((1))))) ~", 5 + 16 * 17);
    }

    private static void textsInPlace() {
        GuideBook book = new GuideBook();
        Signs.read(book, "star 2 when 1; star 3 when 1;");
        DUE.is("lines", book.count(5), 2);
        DUE.is("stars", book.stars(7), 2);
        DUE.is("a fault", Signs.read(book, "star 4 when 1; star"), 1 + 16 * 19);
        DUE.is("the one there was stays", book.stars(7), 2);
        DUE.is("with its lines", book.count(5), 2);
        DUE.is("another text", Signs.read(book, "star 4 when 1;"), 0);
        DUE.is("lines", book.count(5), 1);
        DUE.is("stars", book.stars(7), 4);
        DUE.is("an empty text", book.text(), 0);
        DUE.is("lines", book.count(5), 0);
        DUE.is("stars", book.stars(7), 0);
    }

    private static void values() {
        GuideBook book = new GuideBook();
        DUE.is("stars(-1)", book.stars(-1), -1);
        DUE.is("stars(10)", book.stars(10), -1);
        tells(book, "0", 0);
        tells(book, "1 - 1", 0);
        tells(book, "0 - 1", 1);
        tells(book, "1 - 1 - 1 = 0 - 1", 1);
        tells(book, "1 - (1 - 1) = 1", 1);
        tells(book, "7 - 2 + 3 = 8", 1);
        tells(book, "1 < 2", 1);
        tells(book, "2 < 2", 0);
        tells(book, "3 < 2", 0);
        tells(book, "2 = 2", 1);
        tells(book, "0 - 2 = 2", 0);
        tells(book, "1 + 1 < 1 + 2", 1);
        tells(book, "5 and 0", 0);
        tells(book, "0 and 5", 0);
        tells(book, "(5 and 7) = 1", 1);
        tells(book, "5 and 7 = 7", 1);
        tells(book, "(1 < 2) + (2 = 2) + (2 < 2) = 2", 1);
        tells(book, "1 and 1 and 0", 0);
        tells(book, "1 and 0 and 1", 0);
        tells(book, "9999 + 9999 - 9999 = 9999", 1);
        tells(book, "facts = 0 and paid = 0 and marks = 0", 1);
        book.fact(0, 6, 1);
        book.fact(1, 6, 1);
        book.fact(1, 7, 1);
        tells(book, "facts = 2", 1);
    }

    private static void lines() {
        GuideBook book = new GuideBook();
        Signs.read(book, "star 5 when 0; star 0 when paid; star 4 when facts; star 3 when 1 = 1;");
        book.fact(0, 1, 1);
        book.fact(0, 2, 1);
        book.paid(2, true);
        DUE.is("the last line", book.stars(0), 3);
        DUE.is("the first line that is not 0", book.stars(1), 4);
        DUE.is("no stars by a line", book.stars(2), 0);
        Signs.read(book, "star 4 when facts;");
        DUE.is("no line", book.stars(0), 0);
        DUE.is("a line", book.stars(1), 4);
    }

    private static void longSums() {
        GuideBook book = new GuideBook();
        String sum = "1+".repeat(292) + "1";
        DUE.is("a sum of 293", Signs.read(book, "star4when" + sum + "<294;"), 0);
        DUE.is("stars", book.stars(0), 4);
        DUE.is("a sum of 293", Signs.read(book, "star4when" + sum + "<293;"), 0);
        DUE.is("stars", book.stars(0), 0);
    }

    private static void deepest() {
        GuideBook book = new GuideBook();
        String inner = "1 and 1 = 3 - ";
        String nested = inner + "(" + inner + "(" + inner + "(" + inner + "(" + inner + "2))))";
        DUE.is("all wait within brackets", Signs.read(book, "star 2 when " + nested + ";"), 0);
        // 3 - 2 = 1 tells 1; 3 - 1 = 2, not 1, tells 0; 3 - 0 tells 0, and so on outwards.
        DUE.is("stars", book.stars(0), 0);
        nested = nested.replace("1 = 3 - (", "3 = 3 + 1 - (");
        DUE.is("all wait within brackets", Signs.read(book, "star 2 when " + nested + ";"), 0);
        DUE.is("stars", book.stars(0), 2);
    }

    private static void reads(String text, int fault) {
        GuideBook book = new GuideBook();
        DUE.is("text of \"" + text + "\"", Signs.read(book, text), fault);
        DUE.is("the tape behind it", book.count(6), 0);
    }

    private static void tells(GuideBook book, String expression, int value) {
        DUE.is(expression, Signs.read(book, "star 1 when " + expression + ";"), 0);
        DUE.is(expression, book.stars(6), value);
    }
}
