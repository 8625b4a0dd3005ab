/** The edges of promise 21 and of its terms, a sentence of the document each. */
public final class PageEdgesTest {
    private static final Due DUE = new Due();

    public static void main(String[] args) {
        noSuchFact();
        pages();
        inOrder();
        lengthsAddUpToNoMore();
        ninetyNine();
        greatestWorth();
        worthOfNothing();
        leastLength();
        firstLineAhead();
        secondLineAhead();
        lengthAheadOfOrder();
        numbersOfTheKept();
        sixtyLines();
        lastOfSixty();
        greatestSumOfWorth();
        agesAndValuesDoNotMatter();
        DUE.end();
    }

    private static void noSuchFact() {
        DUE.sentence("The NUMBER of a FACT's line .. NONE: no such FACT");
        GuideBook empty = new GuideBook();
        DUE.is("number(0, 5) without facts", empty.number(0, 5), -1);
        GuideBook book = lines(1, 1);
        DUE.is("number(0, 5)", book.number(0, 5), 1);
        DUE.is("number(1, 5)", book.number(1, 5), -1);
        DUE.is("number(-1, 5)", book.number(-1, 5), -1);
        DUE.is("number(MIN, 5)", book.number(Integer.MIN_VALUE, 5), -1);
        DUE.is("number(MAX, 5)", book.number(Integer.MAX_VALUE, 5), -1);
        GuideBook full = Books.fullOfFacts();
        DUE.is("number(59, 99)", full.number(59, 99), 6);
        DUE.is("number(60, 99)", full.number(60, 99), -1);
    }

    private static void pages() {
        DUE.sentence("page of so many (0 .. 99): 0: it is cut; NONE: .. page");
        GuideBook book = lines(1, 1);
        DUE.is("number(0, 0)", book.number(0, 0), 0);
        DUE.is("number(0, 1)", book.number(0, 1), 1);
        DUE.is("number(0, 99)", book.number(0, 99), 1);
        DUE.is("number(0, 100)", book.number(0, 100), -1);
        DUE.is("number(0, -1)", book.number(0, -1), -1);
        DUE.is("number(0, MIN)", book.number(0, Integer.MIN_VALUE), -1);
        DUE.is("number(0, MAX)", book.number(0, Integer.MAX_VALUE), -1);
    }

    private static void inOrder() {
        DUE.sentence("of a PLACE, its lines are its FACTS in order");
        GuideBook book = new GuideBook();
        book.fact(0, 9, 9);
        book.fact(5, 0, 8);
        book.fact(0, 9, 7);
        book.fact(3, 0, 6);
        book.fact(1, 9, 5);
        numbers(book, 99, 1, 1, 2, 2, 3);
        numbers(book, 2, 1, 1, 2, 2, 0);
        numbers(book, 1, 1, 1, 0, 0, 0);
        book.line(1, 9, 999);
        numbers(book, 3, 1, 0, 2, 1, 3);
    }

    private static void lengthsAddUpToNoMore() {
        DUE.sentence("their lengths adding up to no more");
        GuideBook book = lines(9, 5, 1, 5);
        numbers(book, 0, 0, 0);
        numbers(book, 1, 0, 1);
        numbers(book, 8, 0, 1);
        numbers(book, 9, 0, 1);
        numbers(book, 10, 1, 2);
        GuideBook one = lines(9, 1);
        numbers(one, 8, 0);
        numbers(one, 9, 1);
    }

    private static void ninetyNine() {
        DUE.sentence("KEPT on a page of so many (.. 99)");
        GuideBook book = new GuideBook();
        for (int fact = 0; fact < 12; fact++) {
            book.fact(0, 0, 0);
            book.line(fact, 9, 999);
        }
        DUE.is("the 11th on 99", book.number(10, 99), 11);
        DUE.is("the 12th on 99", book.number(11, 99), 0);
        DUE.is("the 11th on 98", book.number(10, 98), 0);
        DUE.is("the 10th on 98", book.number(9, 98), 10);
        book.line(11, 1, 1);
        DUE.is("1 beside ten of 9 on 91", book.number(11, 91), 11);
        DUE.is("1 beside eleven of 9 on 99", book.number(11, 99), 0);
    }

    private static void greatestWorth() {
        DUE.sentence("the lines with the greatest sum of worth");
        GuideBook book = lines(3, 4, 2, 3, 2, 3);
        numbers(book, 3, 1, 0, 0);
        numbers(book, 4, 0, 1, 2);
        numbers(book, 5, 1, 2, 0);
        numbers(book, 7, 1, 2, 3);
        GuideBook bit = lines(9, 999, 1, 998);
        numbers(bit, 9, 1, 0);
        numbers(bit, 8, 0, 1);
        GuideBook many = lines(9, 2, 1, 1, 1, 1, 1, 1);
        numbers(many, 9, 0, 1, 2, 3);
        numbers(many, 10, 0, 1, 2, 3);
        numbers(many, 11, 1, 2, 3, 0);
    }

    private static void worthOfNothing() {
        DUE.sentence("of equal ones with the least length in all (a worth of 0)");
        GuideBook book = lines(1, 0, 1, 1, 9, 0);
        numbers(book, 99, 0, 1, 0);
        numbers(lines(1, 0), 99, 0);
        numbers(lines(1, 0, 1, 0), 1, 0, 0);
    }

    private static void leastLength() {
        DUE.sentence("of equal ones with the least length in all");
        numbers(lines(2, 5, 1, 5), 2, 0, 1);
        numbers(lines(1, 5, 2, 5), 2, 1, 0);
        numbers(lines(9, 5, 8, 5), 16, 0, 1);
        numbers(lines(9, 6, 4, 3, 4, 3), 9, 0, 1, 2);
        numbers(lines(7, 6, 4, 3, 4, 3), 9, 1, 0, 0);
    }

    private static void firstLineAhead() {
        DUE.sentence("of equal ones those with the first line ahead of those without");
        numbers(lines(1, 1, 1, 1), 1, 1, 0);
        numbers(lines(9, 999, 9, 999), 9, 1, 0);
        numbers(lines(2, 2, 1, 1, 1, 1), 2, 1, 0, 0);
        // The first and last, or the two between.
        numbers(lines(1, 1, 2, 2, 2, 2, 3, 3), 4, 1, 0, 0, 2);
    }

    private static void secondLineAhead() {
        DUE.sentence("then the second one, and so on");
        numbers(lines(1, 1, 1, 1, 1, 1), 2, 1, 2, 0);
        numbers(lines(1, 5, 1, 1, 1, 1, 1, 1), 2, 1, 2, 0, 0);
        numbers(lines(1, 1, 1, 5, 1, 1, 1, 1), 2, 1, 2, 0, 0);
        // Beside the first: the second and the last, or the two between.
        numbers(lines(1, 9, 1, 1, 2, 2, 2, 2, 3, 3), 5, 1, 2, 0, 0, 3);
        // The second and the third, not the second and the fourth nor the last two.
        numbers(lines(9, 1, 2, 2, 2, 2, 2, 2), 4, 0, 1, 2, 0);
        numbers(lines(1, 1, 1, 1, 1, 1, 1, 1, 1, 1), 3, 1, 2, 3, 0, 0);
    }

    private static void lengthAheadOfOrder() {
        DUE.sentence("with the least length in all; of equal ones those with the first line");
        numbers(lines(3, 4, 2, 4), 3, 0, 1);
        numbers(lines(3, 4, 1, 2, 1, 2), 3, 0, 1, 2);
        numbers(lines(2, 4, 1, 2, 1, 2), 2, 1, 0, 0);
    }

    private static void numbersOfTheKept() {
        DUE.sentence("Its NUMBER on the map: 1, 2, .. of the lines kept.");
        numbers(lines(9, 1, 1, 5, 9, 1, 1, 5, 9, 1, 1, 5), 3, 0, 1, 0, 2, 0, 3);
        numbers(lines(9, 1, 1, 5, 9, 1, 1, 5, 9, 1, 1, 5), 12, 1, 2, 0, 3, 0, 4);
    }

    private static void sixtyLines() {
        DUE.sentence("its lines are its FACTS (60 at most) .. 1, 2, .. of the lines kept");
        GuideBook book = Books.fullOfFacts(0);
        for (int fact = 0; fact < 60; fact++) {
            DUE.is("number(" + fact + ", 60)", book.number(fact, 60), fact + 1);
            DUE.is("number(" + fact + ", 30)", book.number(fact, 30), fact < 30 ? fact + 1 : 0);
            DUE.is("number(" + fact + ", 0)", book.number(fact, 0), 0);
        }
        DUE.is("number(59, 99)", book.number(59, 99), 60);
        DUE.is("number(59, 59)", book.number(59, 59), 0);
    }

    private static void lastOfSixty() {
        DUE.sentence("the lines with the greatest sum of worth (of 60)");
        GuideBook book = Books.fullOfFacts(0);
        book.line(59, 1, 2);
        DUE.is("the last line", book.number(59, 1), 1);
        DUE.is("the first line", book.number(0, 1), 0);
        DUE.is("the last line beside the first", book.number(59, 2), 2);
        book.line(31, 1, 3);
        book.line(32, 1, 3);
        DUE.is("line 31", book.number(31, 2), 1);
        DUE.is("line 32", book.number(32, 2), 2);
        DUE.is("line 59", book.number(59, 2), 0);
        DUE.is("line 59", book.number(59, 3), 3);
    }

    private static void greatestSumOfWorth() {
        DUE.sentence("a worth (.. 999), FACTS, 60 at most");
        GuideBook book = Books.fullOfFacts(0);
        for (int fact = 0; fact < 60; fact++) {
            book.line(fact, 1, 999);
        }
        book.line(7, 2, 998);
        DUE.is("all but line 7", book.number(59, 60), 59);
        DUE.is("line 7", book.number(7, 60), 0);
        DUE.is("line 7 on 61", book.number(7, 61), 8);
        DUE.is("line 59 on 61", book.number(59, 61), 60);
    }

    private static void agesAndValuesDoNotMatter() {
        DUE.sentence("of a PLACE, its lines are its FACTS");
        GuideBook book = lines(1, 1, 1, 1);
        Books.pass(book, 99);
        book.check(1, 9999);
        book.letter(0, 0, 5);
        numbers(book, 1, 1, 0);
        numbers(book, 2, 1, 2);
    }

    /** A book with lines of place 4, a length and a worth each. */
    private static GuideBook lines(int... lengthsAndWorths) {
        GuideBook book = new GuideBook();
        for (int n = 0; n < lengthsAndWorths.length / 2; n++) {
            book.fact(0, 4, 0);
            book.line(n, lengthsAndWorths[2 * n], lengthsAndWorths[2 * n + 1]);
        }
        return book;
    }

    private static void numbers(GuideBook book, int page, int... due) {
        for (int fact = 0; fact < due.length; fact++) {
            DUE.is("number(" + fact + ", " + page + ")", book.number(fact, page), due[fact]);
        }
    }
}
