/** What README.md tells of the calls in its examples. */
public final class ReadmeTest {
    private static final Due DUE = new Due();

    private static final String TEXT = "star 5 when paid ;\n"
        + "star 3 when 1 < marks and 60 < mean ;\n"
        + "star 1 when (greatest - least < 20) + facts ;\n";

    public static void main(String[] args) {
        callsOneByOne();
        textThatGivesStars();
        faultLeavesTheText();
        DUE.end();
    }

    private static void callsOneByOne() {
        GuideBook book = new GuideBook();
        int fact = book.fact(0, 3, 500);
        DUE.is("fact(0, 3, 500)", fact, 0);
        DUE.is("years(2)", book.years(2), 2);
        DUE.is("chance(fact)", book.chance(fact), 250000);
        DUE.is("plan(7, 0)", book.plan(7, 0), 8);
        DUE.is("letter(7, fact, 600)", book.letter(7, fact, 600), 0);
        DUE.is("believed(fact)", book.believed(fact), 600);
        int edition = book.edition();
        DUE.is("edition()", edition, 0);
        DUE.is("check(fact, 650)", book.check(fact, 650), 1);
        DUE.is("proof(0)", book.proof(0), 2);
        DUE.is("weight(7)", book.weight(7), 333);
        DUE.is("printed(edition, 0, fact)", book.printed(edition, 0, fact), 600);
        DUE.is("errors(edition, -1)", book.errors(edition, -1), 1);
    }

    private static void textThatGivesStars() {
        GuideBook book = new GuideBook();
        DUE.is("the text", Signs.read(book, TEXT), 0);
        DUE.is("its lines", book.count(5), 3);
        book.paid(0, true);
        book.mark(1, 0, 70);
        book.mark(1, 2, 75);
        book.mark(2, 0, 90);
        DUE.is("stars of a place whose praise was paid", book.stars(0), 5);
        DUE.is("stars of a place with two good marks", book.stars(1), 3);
        DUE.is("stars of a place with one mark", book.stars(2), 1);
    }

    private static void faultLeavesTheText() {
        GuideBook book = new GuideBook();
        Signs.read(book, TEXT);
        DUE.is("a text with a fault", Signs.read(book, "star 6 when paid ;"), 4 + 16 * 5);
        DUE.is("signs on the tape", book.count(6), 0);
        DUE.is("lines of the text there was", book.count(5), 3);
    }
}
