/** Promises 15 to 17: mark, shift, paid; and the MARKS on the scale as the text's words tell them. */
public final class MarksTest {
    private static final Due DUE = new Due();

    public static void main(String[] args) {
        marks();
        shifts();
        shiftIsCutTowardsZero();
        scale();
        means();
        paid();
        DUE.end();
    }

    private static void marks() {
        GuideBook book = new GuideBook();
        DUE.is("mark(0, 0, 0)", book.mark(0, 0, 0), true);
        DUE.is("mark(9, 4, 100)", book.mark(9, 4, 100), true);
        DUE.is("mark(-1, 0, 0)", book.mark(-1, 0, 0), false);
        DUE.is("mark(10, 0, 0)", book.mark(10, 0, 0), false);
        DUE.is("mark(0, -1, 0)", book.mark(0, -1, 0), false);
        DUE.is("mark(0, 5, 0)", book.mark(0, 5, 0), false);
        DUE.is("mark(0, 0, -1)", book.mark(0, 0, -1), false);
        DUE.is("mark(0, 0, 101)", book.mark(0, 0, 101), false);
        tells(book, 0, "marks", 1);
        tells(book, 9, "greatest", 100);
        book.mark(9, 4, 30);
        tells(book, 9, "greatest", 30);
        tells(book, 9, "marks", 1);
        tells(book, 5, "marks", 0);
    }

    private static void shifts() {
        GuideBook book = new GuideBook();
        DUE.noSuchElement("shift(-1)", () -> book.shift(-1));
        DUE.noSuchElement("shift(5)", () -> book.shift(5));
        DUE.is("no marks", book.shift(4), 0);
        book.mark(0, 4, 80);
        DUE.is("walker 0 did not mark it", book.shift(4), 0);
        book.mark(0, 0, 50);
        DUE.is("both marked it", book.shift(4), 30);
        DUE.is("walker 0's", book.shift(0), 0);
        book.mark(9, 0, 60);
        DUE.is("walker 4 did not mark it", book.shift(4), 30);
        book.mark(9, 4, 70);
        DUE.is("30 and 10", book.shift(4), 20);
        book.mark(0, 4, 50);
        DUE.is("marked anew: 0 and 10", book.shift(4), 5);
        DUE.is("another walker", book.shift(3), 0);
    }

    private static void shiftIsCutTowardsZero() {
        GuideBook book = new GuideBook();
        book.mark(0, 0, 50);
        book.mark(1, 0, 50);
        book.mark(0, 1, 51);
        book.mark(1, 1, 52);
        book.mark(0, 2, 49);
        book.mark(1, 2, 48);
        DUE.is("3 / 2", book.shift(1), 1);
        DUE.is("-3 / 2", book.shift(2), -1);
    }

    private static void scale() {
        GuideBook book = new GuideBook();
        book.mark(0, 0, 10);
        book.mark(0, 1, 60);
        book.mark(1, 1, 20);
        DUE.is("shift(1)", book.shift(1), 50);
        tells(book, 0, "greatest", 10);
        tells(book, 1, "marks", 1);
        tells(book, 1, "mean", 0);
        tells(book, 1, "greatest", 0);
        book.mark(0, 2, 0);
        book.mark(0, 0, 90);
        book.mark(1, 2, 20);
        DUE.is("shift(2)", book.shift(2), -90);
        tells(book, 1, "greatest", 100);
        tells(book, 1, "least", 50);
    }

    private static void means() {
        GuideBook book = new GuideBook();
        tells(book, 4, "mean", 0);
        tells(book, 4, "least", 0);
        tells(book, 4, "greatest", 0);
        book.mark(4, 1, 10);
        book.mark(4, 2, 20);
        book.mark(4, 3, 25);
        tells(book, 4, "marks", 3);
        tells(book, 4, "mean", 18);
        tells(book, 4, "least", 10);
        tells(book, 4, "greatest", 25);
        book.mark(4, 0, 0);
        tells(book, 4, "marks", 4);
        tells(book, 4, "mean", 0);
    }

    private static void paid() {
        GuideBook book = new GuideBook();
        DUE.is("paid(-1, true)", book.paid(-1, true), false);
        DUE.is("paid(10, false)", book.paid(10, false), false);
        tells(book, 9, "paid", 0);
        DUE.is("paid(9, true)", book.paid(9, true), true);
        tells(book, 9, "paid", 1);
        tells(book, 8, "paid", 0);
        DUE.is("paid(9, true)", book.paid(9, true), true);
        tells(book, 9, "paid", 1);
        DUE.is("paid(9, false)", book.paid(9, false), true);
        tells(book, 9, "paid", 0);
    }

    private static void tells(GuideBook book, int place, String word, int value) {
        Signs.read(book, "star 4 when " + word + " = " + value + ";");
        DUE.is(word + " of " + place + " is " + value, book.stars(place), 4);
    }
}
