/** Promises 22 to 24: edition, printed, errors. */
public final class EditionsTest {
    private static final Due DUE = new Due();

    public static void main(String[] args) {
        tenEditions();
        whatIsPrinted();
        theyStand();
        firstCheckBehind();
        byKind();
        eachEdition();
        wrongErrors();
        fullBook();
        DUE.end();
    }

    private static void tenEditions() {
        GuideBook book = new GuideBook();
        for (int n = 0; n < 10; n++) {
            DUE.is("edition " + n, book.edition(), n);
            DUE.is("count(4)", book.count(4), n + 1);
        }
        DUE.is("an 11th edition", book.edition(), -1);
        DUE.is("count(4)", book.count(4), 10);
        DUE.is("printed(9, 1, 9)", book.printed(9, 1, 9), 0);
        DUE.is("printed(10, 1, 9)", book.printed(10, 1, 9), -1);
    }

    private static void whatIsPrinted() {
        GuideBook book = new GuideBook();
        book.fact(0, 4, 50);
        book.fact(0, 5, 60);
        book.years(3);
        book.letter(0, 1, 70);
        book.paid(4, true);
        Signs.read(book, "star 5 when paid; star 2 when facts;");
        DUE.is("edition()", book.edition(), 0);
        DUE.is("the fact's value", book.printed(0, 0, 0), 50);
        DUE.is("what is believed", book.printed(0, 0, 1), 70);
        DUE.is("stars of 4", book.printed(0, 1, 4), 5);
        DUE.is("stars of 5", book.printed(0, 1, 5), 2);
        DUE.is("stars of 6", book.printed(0, 1, 6), 0);
        DUE.is("printed(0, 0, 2)", book.printed(0, 0, 2), -1);
        DUE.is("printed(0, 0, -1)", book.printed(0, 0, -1), -1);
        DUE.is("printed(0, 1, 10)", book.printed(0, 1, 10), -1);
        DUE.is("printed(0, 1, -1)", book.printed(0, 1, -1), -1);
        DUE.is("printed(0, 2, 0)", book.printed(0, 2, 0), -1);
        DUE.is("printed(0, -1, 0)", book.printed(0, -1, 0), -1);
        DUE.is("printed(-1, 0, 0)", book.printed(-1, 0, 0), -1);
        DUE.is("printed(1, 0, 0)", book.printed(1, 0, 0), -1);
    }

    private static void theyStand() {
        GuideBook book = new GuideBook();
        book.fact(0, 4, 50);
        Signs.read(book, "star 2 when facts;");
        book.edition();
        book.fact(0, 4, 51);
        book.fact(0, 5, 52);
        book.check(0, 99);
        Signs.read(book, "star 4 when 1;");
        DUE.is("its fact", book.printed(0, 0, 0), 50);
        DUE.is("a later fact is not in it", book.printed(0, 0, 1), -1);
        DUE.is("its stars", book.printed(0, 1, 4), 2);
        DUE.is("its stars", book.printed(0, 1, 5), 0);
        book.edition();
        DUE.is("the next one", book.printed(1, 0, 0), 99);
        DUE.is("the next one", book.printed(1, 0, 2), 52);
        DUE.is("the next one's stars", book.printed(1, 1, 5), 4);
    }

    private static void firstCheckBehind() {
        GuideBook book = new GuideBook();
        book.fact(0, 0, 50);
        book.fact(0, 0, 60);
        book.fact(0, 0, 70);
        book.check(0, 51);
        book.edition();
        DUE.is("no CHECK behind it", book.errors(0, -1), 0);
        book.check(0, 51);
        book.check(0, 52);
        DUE.is("right at the first CHECK", book.errors(0, -1), 0);
        book.check(1, 61);
        book.check(1, 60);
        DUE.is("wrong at the first CHECK", book.errors(0, -1), 1);
        book.fact(0, 0, 80);
        book.check(3, 81);
        DUE.is("a fact that is not in it", book.errors(0, -1), 1);
        book.check(2, 10000);
        DUE.is("no CHECK with a wrong value", book.errors(0, -1), 1);
    }

    private static void byKind() {
        GuideBook book = new GuideBook();
        for (int kind = 0; kind < 6; kind++) {
            for (int n = 0; n <= kind; n++) {
                book.fact(kind, n, 50);
            }
        }
        book.edition();
        for (int fact = 0; fact < book.count(0); fact++) {
            book.check(fact, 49);
        }
        for (int kind = 0; kind < 6; kind++) {
            DUE.is("errors(0, " + kind + ")", book.errors(0, kind), kind + 1);
        }
        DUE.is("errors(0, -1)", book.errors(0, -1), 21);
    }

    private static void eachEdition() {
        GuideBook book = new GuideBook();
        book.fact(2, 0, 50);
        book.years(5);
        book.edition();
        book.letter(0, 0, 60);
        book.edition();
        DUE.is("the letter is believed", book.printed(1, 0, 0), 60);
        book.check(0, 60);
        book.edition();
        DUE.is("printed ahead of the letter", book.errors(0, 2), 1);
        DUE.is("printed behind the letter", book.errors(1, 2), 0);
        book.check(0, 50);
        DUE.is("the first CHECK counts", book.errors(0, 2), 1);
        DUE.is("the first CHECK counts", book.errors(1, 2), 0);
        DUE.is("the third edition", book.errors(2, 2), 1);
    }

    private static void wrongErrors() {
        GuideBook book = new GuideBook();
        DUE.is("errors(0, 0)", book.errors(0, 0), -1);
        book.edition();
        DUE.is("errors(0, 0)", book.errors(0, 0), 0);
        DUE.is("errors(0, 5)", book.errors(0, 5), 0);
        DUE.is("errors(0, 6)", book.errors(0, 6), -1);
        DUE.is("errors(0, -2)", book.errors(0, -2), -1);
        DUE.is("errors(-1, 0)", book.errors(-1, 0), -1);
        DUE.is("errors(1, -1)", book.errors(1, -1), -1);
    }

    private static void fullBook() {
        GuideBook book = new GuideBook();
        for (int fact = 0; fact < 60; fact++) {
            book.fact(fact % 6, fact % 10, 50);
        }
        book.years(5);
        for (int n = 0; n < 100; n++) {
            book.letter(n % 20, n % 50, 60);
        }
        Signs.read(book, "star 1 when facts = 6;");
        for (int n = 0; n < 10; n++) {
            DUE.is("edition", book.edition(), n);
        }
        for (int fact = 0; fact < 60; fact++) {
            DUE.is("printed(9, 0, " + fact + ")", book.printed(9, 0, fact), fact < 50 ? 60 : 50);
            DUE.is("check(" + fact + ", 50)", book.check(fact, 50), 0);
        }
        for (int place = 0; place < 10; place++) {
            DUE.is("printed(9, 1, " + place + ")", book.printed(9, 1, place), 1);
        }
        DUE.is("errors(9, -1)", book.errors(9, -1), 50);
        DUE.is("errors(0, 5)", book.errors(0, 5), 8);
        DUE.is("printed(9, 0, 60)", book.printed(9, 0, 60), -1);
    }
}
