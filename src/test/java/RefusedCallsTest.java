import java.util.NoSuchElementException;
import java.util.function.ToIntFunction;

/**
 * Refused calls of all promises (NONE, false, NoSuchElementException), and calls that only ask:
 * behind each of them all that can be asked of the book is as it was.
 */
public final class RefusedCallsTest {
    private static final Due DUE = new Due();
    private static final int THROWN = Integer.MIN_VALUE;
    private static final int LEAST = Integer.MIN_VALUE;
    private static final int GREATEST = Integer.MAX_VALUE;

    /** One call, its answer as a number: 0 for false, THROWN for NoSuchElementException. */
    private interface Call extends ToIntFunction<GuideBook> {
    }

    public static void main(String[] args) {
        years();
        facts();
        lines();
        checks();
        takes();
        letters();
        marks();
        paid();
        thrown();
        full();
        onlyAsked();
        DUE.end();
    }

    private static void years() {
        DUE.sentence("n YEARS pass (0 .. 20): NOW; NONE for another n, beyond 99.");
        for (int n : new int[] {-1, 21, LEAST, GREATEST}) {
            leaves("years(" + n + ")", -1, book -> book.years(n));
        }
        leaves("years(0)", 2, book -> book.years(0));
    }

    private static void facts() {
        DUE.sentence("A FACT more .. NONE: other numbers");
        for (int n : new int[] {-1, LEAST, GREATEST}) {
            leaves("fact(" + n + ", 0, 0)", -1, book -> book.fact(n, 0, 0));
            leaves("fact(0, " + n + ", 0)", -1, book -> book.fact(0, n, 0));
            leaves("fact(0, 0, " + n + ")", -1, book -> book.fact(0, 0, n));
        }
        leaves("fact(6, 0, 0)", -1, book -> book.fact(6, 0, 0));
        leaves("fact(0, 10, 0)", -1, book -> book.fact(0, 10, 0));
        leaves("fact(0, 0, 10000)", -1, book -> book.fact(0, 0, 10000));
    }

    private static void lines() {
        DUE.sentence("A FACT's line: true; false: no such FACT, other numbers.");
        for (int n : new int[] {-1, LEAST, GREATEST}) {
            leaves("line(" + n + ", 5, 5)", 0, book -> yes(book.line(n, 5, 5)));
            leaves("line(0, " + n + ", 5)", 0, book -> yes(book.line(0, n, 5)));
            leaves("line(0, 5, " + n + ")", 0, book -> yes(book.line(0, 5, n)));
        }
        leaves("line(3, 5, 5)", 0, book -> yes(book.line(3, 5, 5)));
        leaves("line(0, 0, 5)", 0, book -> yes(book.line(0, 0, 5)));
        leaves("line(0, 10, 5)", 0, book -> yes(book.line(0, 10, 5)));
        leaves("line(0, 5, 1000)", 0, book -> yes(book.line(0, 5, 1000)));
    }

    private static void checks() {
        DUE.sentence("A CHECK .. NONE: no such FACT, value.");
        for (int n : new int[] {-1, LEAST, GREATEST}) {
            leaves("check(" + n + ", 5)", -1, book -> book.check(n, 5));
            leaves("check(0, " + n + ")", -1, book -> book.check(0, n));
        }
        leaves("check(3, 5)", -1, book -> book.check(3, 5));
        leaves("check(0, 10000)", -1, book -> book.check(0, 10000));
    }

    private static void takes() {
        DUE.sentence("How many days a PLACE takes: true; false: none such, other days.");
        for (int n : new int[] {-1, LEAST, GREATEST}) {
            leaves("takes(" + n + ", 9)", 0, book -> yes(book.takes(n, 9)));
            leaves("takes(0, " + n + ")", 0, book -> yes(book.takes(0, n)));
        }
        leaves("takes(10, 9)", 0, book -> yes(book.takes(10, 9)));
        leaves("takes(0, 0)", 0, book -> yes(book.takes(0, 0)));
        leaves("takes(0, 21)", 0, book -> yes(book.takes(0, 21)));
    }

    private static void letters() {
        DUE.sentence("A LETTER .. NONE: no such READER, FACT, value");
        for (int n : new int[] {-1, LEAST, GREATEST}) {
            leaves("letter(" + n + ", 0, 5)", -1, book -> book.letter(n, 0, 5));
            leaves("letter(0, " + n + ", 5)", -1, book -> book.letter(0, n, 5));
            leaves("letter(0, 0, " + n + ")", -1, book -> book.letter(0, 0, n));
        }
        leaves("letter(20, 0, 5)", -1, book -> book.letter(20, 0, 5));
        leaves("letter(0, 3, 5)", -1, book -> book.letter(0, 3, 5));
        leaves("letter(0, 0, 10000)", -1, book -> book.letter(0, 0, 10000));
    }

    private static void marks() {
        DUE.sentence("A MARK: true; false: no such PLACE, walker, MARK.");
        for (int n : new int[] {-1, LEAST, GREATEST}) {
            leaves("mark(" + n + ", 0, 5)", 0, book -> yes(book.mark(n, 0, 5)));
            leaves("mark(0, " + n + ", 5)", 0, book -> yes(book.mark(0, n, 5)));
            leaves("mark(0, 0, " + n + ")", 0, book -> yes(book.mark(0, 0, n)));
        }
        leaves("mark(10, 0, 5)", 0, book -> yes(book.mark(10, 0, 5)));
        leaves("mark(0, 5, 5)", 0, book -> yes(book.mark(0, 5, 5)));
        leaves("mark(0, 0, 101)", 0, book -> yes(book.mark(0, 0, 101)));
    }

    private static void paid() {
        DUE.sentence("Praise for a PLACE was paid (yes) or not: true; false: none such.");
        for (int n : new int[] {-1, 10, LEAST, GREATEST}) {
            leaves("paid(" + n + ", true)", 0, book -> yes(book.paid(n, true)));
            leaves("paid(" + n + ", false)", 0, book -> yes(book.paid(n, false)));
        }
    }

    private static void thrown() {
        DUE.sentence("NoSuchElementException: none such.");
        for (int n : new int[] {-1, LEAST, GREATEST}) {
            leaves("shift(" + n + ")", THROWN, book -> book.shift(n));
            leaves("look(" + n + ", 0)", THROWN, book -> book.look(n, 0));
            leaves("look(0, " + n + ")", THROWN, book -> book.look(0, n));
        }
        leaves("shift(5)", THROWN, book -> book.shift(5));
        leaves("look(3, 0)", THROWN, book -> book.look(3, 0));
        leaves("look(0, 6)", THROWN, book -> book.look(0, 6));
    }

    private static void full() {
        DUE.sentence("60 are there .. 100 are there .. 10 are .. beyond 99 .. beyond 600");
        GuideBook book = Books.fullOfFacts();
        Books.pass(book, 99);
        for (int n = 0; n < 100; n++) {
            book.letter(n % 20, n % 60, n);
        }
        for (int n = 0; n < 10; n++) {
            book.edition();
        }
        Signs.feed(book, " ".repeat(600));
        String before = fewAnswers(book);
        DUE.is("a 61st fact", book.fact(0, 0, 9), -1);
        DUE.is("a 101st letter", book.letter(0, 0, 9), -1);
        DUE.is("an 11th edition", book.edition(), -1);
        DUE.is("a year 100", book.years(1), -1);
        DUE.is("a 601st sign", book.feed('x', 'x', 'x'), 600);
        DUE.is("all is as it was", fewAnswers(book).equals(before), true);
        DUE.is("600 blanks, no x", book.text(), 0);
    }

    private static String fewAnswers(GuideBook book) {
        StringBuilder all = new StringBuilder();
        for (int what = 0; what <= 6; what++) {
            tell(all, book.count(what));
        }
        for (int what = 0; what <= 5; what++) {
            tell(all, book.look(0, what));
            tell(all, book.look(59, what));
        }
        tell(all, book.proof(99));
        tell(all, book.believed(0));
        tell(all, book.quarrel(0));
        tell(all, book.printed(9, 0, 59));
        tell(all, book.printed(0, 0, 0));
        tell(all, book.errors(9, -1));
        tell(all, book.number(50, 99));
        return all.toString();
    }

    private static void onlyAsked() {
        DUE.sentence("Nothing is promised beyond the answers and state changes described above");
        leaves("rate(0)", 0, book -> book.rate(0));
        leaves("chance(1)", 0, book -> book.chance(1));
        leaves("plan(99, 0)", 24, book -> book.plan(99, 0));
        leaves("weight(2)", 500, book -> book.weight(2));
        leaves("believed(1)", 8, book -> book.believed(1));
        leaves("quarrel(1)", 1, book -> book.quarrel(1));
        leaves("proof(0)", 1, book -> book.proof(0));
        leaves("shift(1)", 20, book -> book.shift(1));
        leaves("stars(3)", 3, book -> book.stars(3));
        leaves("number(2, 9)", 1, book -> book.number(2, 9));
        leaves("printed(0, 0, 0)", 5, book -> book.printed(0, 0, 0));
        leaves("errors(0, -1)", 1, book -> book.errors(0, -1));
        leaves("count(6)", 14, book -> book.count(6));
        leaves("look(2, 5)", 30, book -> book.look(2, 5));
        leaves("feed(0, 0, 0)", 14, book -> book.feed(0, 0, 0));
    }

    /** The call answers as is due, and the book is as it was. */
    private static void leaves(String name, int due, Call call) {
        GuideBook book = someBook();
        String before = allAnswers(book);
        DUE.is(name, answer(book, call), due);
        DUE.is("all is as it was behind " + name, allAnswers(book).equals(before), true);
        DUE.is("the TAPE behind " + name, book.text(), 0);
        DUE.is("stars by it behind " + name, book.stars(0), 4);
    }

    private static int answer(GuideBook book, Call call) {
        try {
            return call.applyAsInt(book);
        } catch (NoSuchElementException noSuch) {
            return THROWN;
        }
    }

    private static int yes(boolean answer) {
        return answer ? 1 : 0;
    }

    /** Three facts, five letters, an edition, marks, a text, and another one on the tape. */
    private static GuideBook someBook() {
        GuideBook book = new GuideBook();
        book.fact(0, 3, 5);
        book.fact(0, 3, 6);
        book.fact(5, 4, 7);
        book.line(0, 2, 10);
        book.line(1, 3, 20);
        book.line(2, 9, 30);
        book.takes(4, 7);
        book.letter(0, 0, 9);
        book.letter(1, 0, 5);
        book.edition();
        book.years(2);
        book.check(0, 9);
        book.check(0, 10);
        book.check(0, 11);
        book.letter(2, 1, 8);
        book.letter(3, 1, 9);
        book.letter(3, 2, 7);
        book.mark(0, 0, 50);
        book.mark(0, 1, 70);
        book.mark(3, 1, 80);
        book.paid(4, true);
        Signs.read(book, "star 5 when paid; star 3 when mean = 60; star 1 when marks;");
        Signs.feed(book, "star 4 when 1;");
        return book;
    }

    /** The answers to all that can be asked of the book, some 150 calls. */
    private static String allAnswers(GuideBook book) {
        StringBuilder all = new StringBuilder();
        for (int what = 0; what <= 6; what++) {
            tell(all, book.count(what));
        }
        for (int fact = 0; fact < book.count(0); fact++) {
            for (int what = 0; what <= 5; what++) {
                tell(all, book.look(fact, what));
            }
            tell(all, book.chance(fact));
            tell(all, book.believed(fact));
            tell(all, book.quarrel(fact));
            tell(all, book.number(fact, 4));
            tell(all, book.number(fact, 99));
        }
        for (int kind = 0; kind < 6; kind++) {
            tell(all, book.rate(kind));
            tell(all, book.errors(0, kind));
        }
        for (int place = 0; place < 10; place++) {
            tell(all, book.stars(place));
            tell(all, book.printed(0, 1, place));
            tell(all, book.plan(place, 0));
        }
        for (int n = 0; n < 20; n++) {
            tell(all, book.weight(n));
            tell(all, book.proof(n));
            tell(all, book.printed(0, 0, n));
        }
        for (int walker = 0; walker < 5; walker++) {
            tell(all, book.shift(walker));
        }
        return all.toString();
    }

    private static void tell(StringBuilder all, int answer) {
        all.append(answer).append(' ');
    }
}
