/** The edges of promises 15 to 17 and of their terms, a sentence of the document each. */
public final class MarkEdgesTest {
    private static final Due DUE = new Due();

    public static void main(String[] args) {
        placesOfMarks();
        walkers();
        marks();
        anew();
        bothMarked();
        cutTowardsZero();
        noSuchPlaces();
        walkerZero();
        widestShift();
        shiftThrows();
        scaleFromZero();
        scaleToHundred();
        marksOfNone();
        marksOfAll();
        meanIsCut();
        paid();
        paidOfNoPlace();
        DUE.end();
    }

    private static void placesOfMarks() {
        DUE.sentence("A MARK: true; false: no such PLACE");
        GuideBook book = new GuideBook();
        DUE.is("mark(-1, 0, 5)", book.mark(-1, 0, 5), false);
        DUE.is("mark(10, 0, 5)", book.mark(10, 0, 5), false);
        DUE.is("mark(MIN, 0, 5)", book.mark(Integer.MIN_VALUE, 0, 5), false);
        DUE.is("mark(MAX, 0, 5)", book.mark(Integer.MAX_VALUE, 0, 5), false);
        for (int place = 0; place < 10; place++) {
            tells(book, place, "marks", 0);
        }
        for (int place = 0; place < 10; place++) {
            DUE.is("mark(" + place + ", 0, 5)", book.mark(place, 0, 5), true);
            tells(book, place, "marks", 1);
        }
    }

    private static void walkers() {
        DUE.sentence("by a walker (0 to 4)");
        GuideBook book = new GuideBook();
        DUE.is("mark(0, -1, 5)", book.mark(0, -1, 5), false);
        DUE.is("mark(0, 5, 5)", book.mark(0, 5, 5), false);
        DUE.is("mark(0, MIN, 5)", book.mark(0, Integer.MIN_VALUE, 5), false);
        DUE.is("mark(0, MAX, 5)", book.mark(0, Integer.MAX_VALUE, 5), false);
        tells(book, 0, "marks", 0);
        for (int walker = 0; walker < 5; walker++) {
            DUE.is("mark(0, " + walker + ", 5)", book.mark(0, walker, 5), true);
            tells(book, 0, "marks", walker + 1);
        }
        tells(book, 1, "marks", 0);
    }

    private static void marks() {
        DUE.sentence("MARKS: of a PLACE by a walker (0 to 4), 0 to 100");
        GuideBook book = new GuideBook();
        DUE.is("mark(0, 0, -1)", book.mark(0, 0, -1), false);
        DUE.is("mark(0, 0, 101)", book.mark(0, 0, 101), false);
        DUE.is("mark(0, 0, MIN)", book.mark(0, 0, Integer.MIN_VALUE), false);
        DUE.is("mark(0, 0, MAX)", book.mark(0, 0, Integer.MAX_VALUE), false);
        tells(book, 0, "marks", 0);
        DUE.is("mark(0, 0, 100)", book.mark(0, 0, 100), true);
        tells(book, 0, "least", 100);
        DUE.is("mark(0, 0, 101)", book.mark(0, 0, 101), false);
        DUE.is("mark(0, 0, -1)", book.mark(0, 0, -1), false);
        tells(book, 0, "least", 100);
        DUE.is("mark(0, 0, 0)", book.mark(0, 0, 0), true);
        tells(book, 0, "greatest", 0);
        tells(book, 0, "marks", 1);
    }

    private static void anew() {
        DUE.sentence("anew in place of one ahead");
        GuideBook book = new GuideBook();
        book.mark(0, 0, 50);
        book.mark(0, 1, 90);
        DUE.is("shift(1)", book.shift(1), 40);
        book.mark(0, 1, 40);
        DUE.is("shift(1), marked anew", book.shift(1), -10);
        book.mark(0, 0, 40);
        DUE.is("shift(1), walker 0 marked anew", book.shift(1), 0);
        tells(book, 0, "marks", 2);
    }

    private static void bothMarked() {
        DUE.sentence("over the PLACES that both marked, the sum of own less 0's, divided by how many");
        GuideBook book = new GuideBook();
        for (int place = 0; place < 10; place++) {
            book.mark(place, 0, 50);
            book.mark(place, 4, 50 + place);
            DUE.is("places 0 to " + place, book.shift(4), place / 2);
        }
        GuideBook some = new GuideBook();
        some.mark(0, 0, 0);
        some.mark(1, 1, 100);
        some.mark(9, 0, 10);
        some.mark(9, 1, 30);
        DUE.is("place 9 alone", some.shift(1), 20);
        some.mark(5, 2, 100);
        DUE.is("another walker's", some.shift(1), 20);
    }

    private static void cutTowardsZero() {
        DUE.sentence("cut towards 0");
        for (int more = -6; more <= 6; more++) {
            GuideBook book = new GuideBook();
            for (int place = 0; place < 3; place++) {
                book.mark(place, 0, 50);
                book.mark(place, 1, 50);
            }
            book.mark(0, 1, 50 + more);
            DUE.is(more + " / 3", book.shift(1), more < 0 ? -(-more / 3) : more / 3);
        }
    }

    private static void noSuchPlaces() {
        DUE.sentence("0 without such PLACES");
        GuideBook book = new GuideBook();
        for (int walker = 0; walker < 5; walker++) {
            DUE.is("no marks: shift(" + walker + ")", book.shift(walker), 0);
        }
        book.mark(0, 3, 80);
        DUE.is("3's own alone", book.shift(3), 0);
        book.mark(1, 0, 10);
        DUE.is("on different places", book.shift(3), 0);
        tells(book, 0, "mean", 80);
    }

    private static void walkerZero() {
        DUE.sentence("walker 0's is 0");
        GuideBook book = new GuideBook();
        book.mark(0, 0, 100);
        book.mark(1, 0, 1);
        book.mark(0, 1, 0);
        DUE.is("shift(0)", book.shift(0), 0);
        book.mark(0, 0, 7);
        DUE.is("shift(0)", book.shift(0), 0);
        tells(book, 0, "greatest", 7);
    }

    private static void widestShift() {
        DUE.sentence("the sum of own less 0's (0 to 100)");
        GuideBook book = new GuideBook();
        for (int place = 0; place < 10; place++) {
            book.mark(place, 0, 0);
            book.mark(place, 1, 100);
        }
        DUE.is("100 in all places", book.shift(1), 100);
        tells(book, 0, "greatest", 0);
        for (int place = 0; place < 10; place++) {
            book.mark(place, 0, 100);
            book.mark(place, 1, 0);
        }
        DUE.is("-100 in all places", book.shift(1), -100);
        tells(book, 0, "least", 100);
    }

    private static void shiftThrows() {
        DUE.sentence("A walker's SHIFT. NoSuchElementException: none such.");
        GuideBook book = new GuideBook();
        book.mark(0, 0, 50);
        book.mark(0, 4, 60);
        int[] none = {-1, 5, Integer.MIN_VALUE, Integer.MAX_VALUE};
        for (int walker : none) {
            DUE.noSuchElement("shift(" + walker + ")", () -> book.shift(walker));
        }
        DUE.is("shift(4) behind them", book.shift(4), 10);
    }

    private static void scaleFromZero() {
        DUE.sentence("A MARK on the scale: less the SHIFT, 0 to ..");
        GuideBook book = shifted(50, 80);
        book.mark(1, 1, 31);
        tells(book, 1, "least", 1);
        book.mark(1, 1, 30);
        tells(book, 1, "marks", 1);
        tells(book, 1, "greatest", 0);
        book.mark(1, 1, 29);
        tells(book, 1, "least", 0);
        book.mark(1, 1, 0);
        tells(book, 1, "least", 0);
        tells(book, 1, "mean", 0);
    }

    private static void scaleToHundred() {
        DUE.sentence("A MARK on the scale: less the SHIFT, .. to 100");
        GuideBook book = shifted(80, 50);
        book.mark(1, 1, 69);
        tells(book, 1, "greatest", 99);
        book.mark(1, 1, 70);
        tells(book, 1, "greatest", 100);
        book.mark(1, 1, 71);
        tells(book, 1, "greatest", 100);
        book.mark(1, 1, 100);
        tells(book, 1, "greatest", 100);
        tells(book, 1, "mean", 100);
    }

    private static void marksOfNone() {
        DUE.sentence("mean (cut), least, greatest MARK on the scale (0 without any)");
        GuideBook book = new GuideBook();
        book.mark(1, 0, 40);
        String[] words = {"marks", "mean", "least", "greatest"};
        for (String word : words) {
            tells(book, 0, word, 0);
        }
        tells(book, 1, "least", 40);
    }

    private static void marksOfAll() {
        DUE.sentence("marks: how many walkers marked it");
        GuideBook book = new GuideBook();
        for (int walker = 1; walker < 5; walker++) {
            book.mark(0, walker, 20 * walker);
        }
        tells(book, 0, "marks", 4);
        tells(book, 0, "mean", 50);
        tells(book, 0, "least", 20);
        tells(book, 0, "greatest", 80);
        book.mark(0, 0, 10);
        tells(book, 0, "marks", 5);
        tells(book, 0, "greatest", 10);
        tells(book, 0, "least", 10);
        book.mark(9, 4, 100);
        tells(book, 9, "marks", 1);
        DUE.is("shift(4)", book.shift(4), 70);
        tells(book, 9, "mean", 30);
    }

    private static void meanIsCut() {
        DUE.sentence("mean (cut)");
        GuideBook book = new GuideBook();
        book.mark(0, 1, 1);
        book.mark(0, 2, 1);
        tells(book, 0, "mean", 1);
        book.mark(0, 3, 0);
        tells(book, 0, "mean", 0);
        book.mark(0, 1, 100);
        book.mark(0, 2, 100);
        book.mark(0, 3, 99);
        tells(book, 0, "mean", 99);
    }

    private static void paid() {
        DUE.sentence("paid: 1 if praise for it was paid, else 0");
        GuideBook book = new GuideBook();
        for (int place = 0; place < 10; place++) {
            tells(book, place, "paid", 0);
        }
        DUE.is("paid(0, true)", book.paid(0, true), true);
        DUE.is("paid(9, true)", book.paid(9, true), true);
        tells(book, 0, "paid", 1);
        tells(book, 1, "paid", 0);
        tells(book, 8, "paid", 0);
        tells(book, 9, "paid", 1);
        DUE.is("paid(0, false)", book.paid(0, false), true);
        DUE.is("paid(9, true) again", book.paid(9, true), true);
        tells(book, 0, "paid", 0);
        tells(book, 9, "paid", 1);
        DUE.is("paid(0, false) again", book.paid(0, false), true);
    }

    private static void paidOfNoPlace() {
        DUE.sentence("Praise for a PLACE was paid (yes) or not: true; false: none such.");
        GuideBook book = new GuideBook();
        book.paid(9, true);
        int[] none = {-1, 10, Integer.MIN_VALUE, Integer.MAX_VALUE};
        for (int place : none) {
            DUE.is("paid(" + place + ", true)", book.paid(place, true), false);
            DUE.is("paid(" + place + ", false)", book.paid(place, false), false);
        }
        tells(book, 0, "paid", 0);
        tells(book, 9, "paid", 1);
    }

    /** A book in which walkers 0 and 1 marked place 0. */
    private static GuideBook shifted(int first, int second) {
        GuideBook book = new GuideBook();
        book.mark(0, 0, first);
        book.mark(0, 1, second);
        return book;
    }

    private static void tells(GuideBook book, int place, String word, int value) {
        Signs.read(book, "star 4 when " + word + " = " + value + ";");
        DUE.is(word + " of " + place + " is " + value, book.stars(place), 4);
    }
}
