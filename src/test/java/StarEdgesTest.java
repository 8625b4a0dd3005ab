/** The edges of promise 20 and of its terms, a sentence of the document each. */
public final class StarEdgesTest {
    private static final Due DUE = new Due();

    public static void main(String[] args) {
        noSuchPlace();
        noText();
        firstLineThatIsNotZero();
        lineOfNoStar();
        belowZeroIsNotZero();
        andOfBothSides();
        less();
        equal();
        sums();
        whatBindsMore();
        factsOfThePlace();
        eachPlace();
        deepest();
        greatestSum();
        leastSum();
        DUE.end();
    }

    private static void noSuchPlace() {
        DUE.sentence("The STARS of a PLACE; NONE: none such.");
        GuideBook book = new GuideBook();
        Signs.read(book, "star 5 when 1;");
        DUE.is("stars(0)", book.stars(0), 5);
        DUE.is("stars(9)", book.stars(9), 5);
        DUE.is("stars(-1)", book.stars(-1), -1);
        DUE.is("stars(10)", book.stars(10), -1);
        DUE.is("stars(MIN)", book.stars(Integer.MIN_VALUE), -1);
        DUE.is("stars(MAX)", book.stars(Integer.MAX_VALUE), -1);
    }

    private static void noText() {
        DUE.sentence("none (0) without one");
        GuideBook book = new GuideBook();
        for (int place = 0; place < 10; place++) {
            DUE.is("without a text: stars(" + place + ")", book.stars(place), 0);
        }
        Signs.read(book, "star 5 when 0; star 4 when 1 - 1; star 3 when paid;");
        for (int place = 0; place < 10; place++) {
            DUE.is("no line holds: stars(" + place + ")", book.stars(place), 0);
        }
    }

    private static void firstLineThatIsNotZero() {
        DUE.sentence("A PLACE has the STARS of the first line whose E is not 0");
        GuideBook book = new GuideBook();
        Signs.read(book, "star 1 when paid; star 5 when facts; star 2 when 1; star 4 when 1;");
        book.fact(0, 1, 0);
        book.fact(0, 2, 0);
        book.paid(2, true);
        DUE.is("the third line", book.stars(0), 2);
        DUE.is("the second line", book.stars(1), 5);
        DUE.is("the first line", book.stars(2), 1);
    }

    private static void lineOfNoStar() {
        DUE.sentence("the STARS of the first line (.. 0 to 5)");
        GuideBook book = new GuideBook();
        Signs.read(book, "star 0 when paid; star 5 when 1;");
        book.paid(3, true);
        DUE.is("a line of 0 stars ends it", book.stars(3), 0);
        DUE.is("the next line", book.stars(4), 5);
    }

    private static void belowZeroIsNotZero() {
        DUE.sentence("whose E is not 0");
        gives("0", 0);
        gives("1", 1);
        gives("0 - 1", 1);
        gives("9999", 1);
        gives("1 - 1", 0);
        gives("0 - 0", 0);
        gives("0000", 0);
    }

    private static void andOfBothSides() {
        DUE.sentence("\"and\": 1 if both sides are not 0");
        gives("0 and 0", 0);
        gives("0 and 1", 0);
        gives("1 and 0", 0);
        gives("1 and 1", 1);
        gives("(2 and 3) = 1", 1);
        gives("(2 and 0) = 0", 1);
        gives("0 - 1 and 0 - 1", 1);
        gives("2 and 1 and 4", 1);
        gives("1 and 1 and 0", 0);
        gives("0 and 1 and 1", 0);
        gives("1 and 0 and 1", 0);
    }

    private static void less() {
        DUE.sentence("<, = tell 1 or 0");
        gives("(1 < 2) = 1", 1);
        gives("(2 < 2) = 0", 1);
        gives("(3 < 2) = 0", 1);
        gives("0 - 1 < 0", 1);
        gives("0 < 0 - 1", 0);
        gives("0 - 2 < 0 - 1", 1);
        gives("9998 < 9999", 1);
        gives("9999 < 9999", 0);
    }

    private static void equal() {
        DUE.sentence("<, = tell 1 or 0");
        gives("(2 = 2) = 1", 1);
        gives("(2 = 3) = 0", 1);
        gives("(2 = 1) = 0", 1);
        gives("0 - 2 = 2", 0);
        gives("0 - 2 = 1 - 3", 1);
        gives("0 = 0", 1);
    }

    private static void sums() {
        DUE.sentence("SUM: PART { + or - PART }");
        gives("7 - 2 - 1 = 4", 1);
        gives("7 - (2 - 1) = 6", 1);
        gives("7 - 2 + 1 = 6", 1);
        gives("7 + 2 - 1 = 8", 1);
        gives("1 - 2 + 1", 0);
    }

    private static void whatBindsMore() {
        DUE.sentence("E: TEST { and TEST }. TEST: SUM [ < SUM or = SUM ].");
        gives("0 and 1 = 0", 0);
        gives("(0 and 1) = 0", 1);
        gives("1 = 1 and 2 = 2", 1);
        gives("1 = (1 and 2) and 2", 1);
        gives("1 + 1 = 2", 1);
        gives("1 + (1 = 2)", 1);
        gives("1 - (1 = 1)", 0);
        gives("3 < 1 + 3", 1);
        gives("(3 < 1) + 3 = 3", 1);
        gives("5 and 5 - 5", 0);
    }

    private static void factsOfThePlace() {
        DUE.sentence("facts: how many FACTS are of it");
        GuideBook book = new GuideBook();
        DUE.is("none", starsBy(book, "facts = 0", 9), 1);
        for (int n = 1; n <= 60; n++) {
            book.fact(n % 6, 9, 0);
        }
        DUE.is("60", starsBy(book, "facts = 60", 9), 1);
        DUE.is("none of another", starsBy(book, "facts = 0", 8), 1);
        book.fact(0, 9, 0);
        DUE.is("a refused one is none", starsBy(book, "facts = 60", 9), 1);
    }

    private static void eachPlace() {
        DUE.sentence("A PLACE has the STARS");
        GuideBook book = new GuideBook();
        for (int place = 0; place < 10; place++) {
            for (int n = 0; n < place; n++) {
                book.fact(0, place, 0);
            }
        }
        Signs.read(book, "star 5 when 8 < facts; star 4 when facts = 8; star 3 when 5 < facts;"
            + "star 2 when 2 < facts; star 1 when facts;");
        int[] due = {0, 1, 1, 2, 2, 2, 3, 3, 4, 5};
        for (int place = 0; place < 10; place++) {
            DUE.is("stars(" + place + ")", book.stars(place), due[place]);
        }
    }

    private static void deepest() {
        DUE.sentence("PART: .. ( E ); 5 within one another");
        gives("((((7)))) = 7", 1);
        // At each depth an "and", a comparison and a sum wait for what is within.
        gives("1 and 3 = 4 - (1 and 3 = 4 - (1 and 3 = 4 - (1 and 3 = 4 - (1 and 3 = 4 - 1))))", 1);
        gives("1 and 3 = 4 - (1 and 3 = 4 - (1 and 3 = 4 - (1 and 3 = 4 - (1 and 3 = 4 - 2))))", 0);
    }

    private static void greatestSum() {
        DUE.sentence("PART: N (.. 1 to 4 digits), SUM: PART { + .. PART }");
        GuideBook book = new GuideBook();
        // 116 times 9999 in 579 signs.
        String sum = "9999" + "+9999".repeat(115);
        DUE.is("text()", Signs.read(book, "star1when 0<" + sum + ";"), 0);
        DUE.is("it is above 0", book.stars(0), 1);
    }

    private static void leastSum() {
        DUE.sentence("PART: N (.. 1 to 4 digits), SUM: PART { .. - PART }");
        GuideBook book = new GuideBook();
        String sum = "0" + "-9999".repeat(116);
        DUE.is("text()", Signs.read(book, "star1when " + sum + "<0;"), 0);
        DUE.is("it is below 0", book.stars(0), 1);
    }

    private static int starsBy(GuideBook book, String expression, int place) {
        DUE.is(expression, Signs.read(book, "star 1 when " + expression + ";"), 0);
        return book.stars(place);
    }

    private static void gives(String expression, int stars) {
        DUE.is(expression, starsBy(new GuideBook(), expression, 0), stars);
    }
}
