import java.util.Random;

/** Promises 4 and 21: line, number. */
public final class PagesTest {
    private static final Due DUE = new Due();

    public static void main(String[] args) {
        wrongPages();
        atFirst();
        leastLength();
        firstLines();
        otherPlaces();
        worthless();
        fullPage();
        everySet();
        DUE.end();
    }

    private static void wrongPages() {
        GuideBook book = new GuideBook();
        book.fact(0, 0, 1);
        DUE.is("number(0, -1)", book.number(0, -1), -1);
        DUE.is("number(0, 100)", book.number(0, 100), -1);
        DUE.is("number(-1, 5)", book.number(-1, 5), -1);
        DUE.is("number(1, 5)", book.number(1, 5), -1);
        DUE.is("number(0, 0)", book.number(0, 0), 0);
        DUE.is("number(0, 99)", book.number(0, 99), 1);
    }

    private static void atFirst() {
        GuideBook book = new GuideBook();
        book.fact(0, 0, 1);
        book.fact(0, 0, 1);
        book.fact(0, 0, 1);
        numbers(book, 3, 1, 2, 3);
        numbers(book, 2, 1, 2, 0);
        numbers(book, 1, 1, 0, 0);
    }

    private static void leastLength() {
        GuideBook book = new GuideBook();
        book.fact(0, 0, 1);
        book.fact(0, 0, 1);
        book.line(0, 5, 7);
        book.line(1, 4, 7);
        numbers(book, 8, 0, 1);
        numbers(book, 9, 1, 2);
        numbers(book, 4, 0, 1);
        numbers(book, 3, 0, 0);
    }

    private static void firstLines() {
        GuideBook book = new GuideBook();
        for (int n = 0; n < 4; n++) {
            book.fact(0, 0, 1);
        }
        book.line(0, 2, 3);
        book.line(1, 3, 4);
        book.line(2, 1, 2);
        book.line(3, 2, 3);
        // Worth 5 in length 3: lines 0 and 2, or 2 and 3.
        numbers(book, 3, 1, 0, 2, 0);
        // Worth 7 in length 5: 0 and 1, or 1 and 3; worth 8: 0, 2 and 3.
        numbers(book, 5, 1, 0, 2, 3);
    }

    private static void otherPlaces() {
        GuideBook book = new GuideBook();
        book.fact(0, 0, 1);
        book.fact(0, 9, 1);
        book.fact(0, 0, 1);
        book.fact(0, 9, 1);
        numbers(book, 1, 1, 1, 0, 0);
        numbers(book, 2, 1, 1, 2, 2);
    }

    private static void worthless() {
        GuideBook book = new GuideBook();
        book.fact(0, 0, 1);
        book.fact(0, 0, 1);
        book.line(0, 1, 0);
        numbers(book, 99, 0, 1);
    }

    private static void fullPage() {
        GuideBook book = new GuideBook();
        for (int n = 0; n < 60; n++) {
            book.fact(0, 0, 1);
            book.line(n, 1, 999);
        }
        for (int n = 0; n < 60; n++) {
            DUE.is("number(" + n + ", 60)", book.number(n, 60), n + 1);
        }
        DUE.is("number(59, 59)", book.number(59, 59), 0);
        DUE.is("number(58, 59)", book.number(58, 59), 59);
    }

    private static void everySet() {
        Random random = new Random(21);
        for (int run = 0; run < 400; run++) {
            GuideBook book = new GuideBook();
            int lines = 1 + random.nextInt(9);
            int[] length = new int[lines];
            int[] worth = new int[lines];
            for (int n = 0; n < lines; n++) {
                length[n] = 1 + random.nextInt(run % 2 == 0 ? 4 : 9);
                worth[n] = random.nextInt(run % 2 == 0 ? 5 : 1000);
                book.fact(0, 3, 1);
                book.line(n, length[n], worth[n]);
            }
            int page = random.nextInt(run % 2 == 0 ? 15 : 50);
            numbers(book, page, bestNumbers(length, worth, page));
        }
    }

    /** Tries all sets; the first line is the highest bit, so the greater set goes ahead. */
    private static int[] bestNumbers(int[] length, int[] worth, int page) {
        int lines = length.length;
        int best = 0;
        int bestWorth = 0;
        int bestLength = 0;
        for (int set = (1 << lines) - 1; set > 0; set--) {
            int sumWorth = 0;
            int sumLength = 0;
            for (int n = 0; n < lines; n++) {
                if ((set >> lines - 1 - n & 1) == 1) {
                    sumWorth += worth[n];
                    sumLength += length[n];
                }
            }
            boolean better = sumWorth > bestWorth
                || sumWorth == bestWorth && sumLength < bestLength;
            if (sumLength <= page && better) {
                best = set;
                bestWorth = sumWorth;
                bestLength = sumLength;
            }
        }
        int[] numbers = new int[lines];
        int next = 1;
        for (int n = 0; n < lines; n++) {
            if ((best >> lines - 1 - n & 1) == 1) {
                numbers[n] = next;
                next++;
            }
        }
        return numbers;
    }

    private static void numbers(GuideBook book, int page, int... due) {
        for (int fact = 0; fact < due.length; fact++) {
            DUE.is("number(" + fact + ", " + page + ")", book.number(fact, page), due[fact]);
        }
    }
}
