/** The edges of promises 1 to 7, 25 and 26 and of their terms, a sentence of the document each. */
public final class FactEdgesTest {
    private static final Due DUE = new Due();

    public static void main(String[] args) {
        newObject();
        yearsAtOnce();
        yearsBeyondTheLast();
        kinds();
        places();
        values();
        sixtyFacts();
        checkedNow();
        numbersInOrder();
        lengths();
        worths();
        linesOfNoFact();
        yearsOfAKind();
        changesOfAKind();
        sureFromThenOn();
        answersOfACheck();
        checksRefused();
        rateIsCut();
        rateIsZeroAtLeast();
        noSuchKind();
        chanceOfNoYears();
        chanceIsCutEachYear();
        noSuchFact();
        countsOfTheEmpty();
        countsOfTheFull();
        looks();
        lookThrows();
        theLastCall();
        DUE.end();
    }

    private static void newObject() {
        DUE.sentence("No FACT; NOW is 0.");
        GuideBook book = new GuideBook();
        DUE.is("FACTS", book.count(0), 0);
        DUE.is("NOW", book.count(1), 0);
        DUE.is("chance(0)", book.chance(0), -1);
        DUE.is("the first fact's number", book.fact(0, 0, 0), 0);
        DUE.is("the first fact's year", book.look(0, 3), 0);
    }

    private static void yearsAtOnce() {
        DUE.sentence("n YEARS pass (0 .. 20): NOW; NONE for another n");
        GuideBook book = new GuideBook();
        DUE.is("years(0)", book.years(0), 0);
        DUE.is("years(-1)", book.years(-1), -1);
        DUE.is("years(21)", book.years(21), -1);
        DUE.is("years(1)", book.years(1), 1);
        DUE.is("years(-1)", book.years(-1), -1);
        DUE.is("years(MIN)", book.years(Integer.MIN_VALUE), -1);
        DUE.is("years(MAX)", book.years(Integer.MAX_VALUE), -1);
        DUE.is("years(99)", book.years(99), -1);
        DUE.is("NOW", book.count(1), 1);
        DUE.is("years(20)", book.years(20), 21);
        DUE.is("NOW", book.count(1), 21);
    }

    private static void yearsBeyondTheLast() {
        DUE.sentence("YEARS are 0 to 99 .. beyond 99");
        GuideBook exactly = Books.inYear(79);
        DUE.is("years(20) in 79", exactly.years(20), 99);
        DUE.is("years(0) in 99", exactly.years(0), 99);
        DUE.is("years(1) in 99", exactly.years(1), -1);
        DUE.is("years(20) in 99", exactly.years(20), -1);
        DUE.is("NOW", exactly.count(1), 99);
        GuideBook beyond = Books.inYear(80);
        DUE.is("years(20) in 80", beyond.years(20), -1);
        DUE.is("NOW", beyond.count(1), 80);
        DUE.is("years(19) in 80", beyond.years(19), 99);
        GuideBook ahead = Books.inYear(98);
        DUE.is("years(2) in 98", ahead.years(2), -1);
        DUE.is("years(1) in 98", ahead.years(1), 99);
        GuideBook aged = Books.inYear(99);
        aged.fact(0, 0, 0);
        DUE.is("the year of a fact of 99", aged.look(0, 3), 99);
        aged.years(1);
        DUE.is("a refused year ages nothing", aged.chance(0), 1000000);
    }

    private static void kinds() {
        DUE.sentence("a kind (0 .. 5)");
        GuideBook book = new GuideBook();
        DUE.is("fact(-1, 0, 0)", book.fact(-1, 0, 0), -1);
        DUE.is("fact(6, 0, 0)", book.fact(6, 0, 0), -1);
        DUE.is("fact(MIN, 0, 0)", book.fact(Integer.MIN_VALUE, 0, 0), -1);
        DUE.is("fact(MAX, 0, 0)", book.fact(Integer.MAX_VALUE, 0, 0), -1);
        DUE.is("FACTS", book.count(0), 0);
        for (int kind = 0; kind < 6; kind++) {
            DUE.is("fact(" + kind + ", 0, 0)", book.fact(kind, 0, 0), kind);
            DUE.is("its kind", book.look(kind, 0), kind);
        }
    }

    private static void places() {
        DUE.sentence("PLACES 0 to 9.");
        GuideBook book = new GuideBook();
        DUE.is("fact(0, -1, 0)", book.fact(0, -1, 0), -1);
        DUE.is("fact(0, 10, 0)", book.fact(0, 10, 0), -1);
        DUE.is("fact(0, MIN, 0)", book.fact(0, Integer.MIN_VALUE, 0), -1);
        DUE.is("fact(0, MAX, 0)", book.fact(0, Integer.MAX_VALUE, 0), -1);
        DUE.is("FACTS", book.count(0), 0);
        for (int place = 0; place < 10; place++) {
            DUE.is("fact(0, " + place + ", 0)", book.fact(0, place, 0), place);
            DUE.is("its place", book.look(place, 1), place);
        }
    }

    private static void values() {
        DUE.sentence("a value (0 .. 9999)");
        GuideBook book = new GuideBook();
        DUE.is("fact(0, 0, -1)", book.fact(0, 0, -1), -1);
        DUE.is("fact(0, 0, 10000)", book.fact(0, 0, 10000), -1);
        DUE.is("fact(0, 0, MIN)", book.fact(0, 0, Integer.MIN_VALUE), -1);
        DUE.is("fact(0, 0, MAX)", book.fact(0, 0, Integer.MAX_VALUE), -1);
        DUE.is("FACTS", book.count(0), 0);
        DUE.is("fact(0, 0, 0)", book.fact(0, 0, 0), 0);
        DUE.is("fact(0, 0, 9999)", book.fact(0, 0, 9999), 1);
        DUE.is("its value", book.look(0, 2), 0);
        DUE.is("its value", book.look(1, 2), 9999);
    }

    private static void sixtyFacts() {
        DUE.sentence("FACTS, 60 at most .. NONE: other numbers, 60 are there");
        GuideBook book = new GuideBook();
        for (int n = 0; n < 60; n++) {
            DUE.is("fact " + n, book.fact(n % 6, n % 10, 100 + n), n);
        }
        DUE.is("a 61st fact", book.fact(0, 0, 7), -1);
        DUE.is("a 61st fact, again", book.fact(5, 9, 7), -1);
        DUE.is("FACTS", book.count(0), 60);
        for (int n = 0; n < 60; n++) {
            DUE.is("value of " + n, book.look(n, 2), 100 + n);
        }
        DUE.is("check(59, 1)", book.check(59, 1), 1);
        DUE.is("check(60, 1)", book.check(60, 1), -1);
        DUE.is("a checked fact makes no room", book.fact(0, 0, 7), -1);
    }

    private static void checkedNow() {
        DUE.sentence("A FACT more, checked NOW");
        GuideBook book = Books.inYear(42);
        book.fact(3, 0, 1);
        DUE.is("its year", book.look(0, 3), 42);
        DUE.is("its chance", book.chance(0), 1000000);
        DUE.is("its kind's years are none", book.rate(3), 500000);
        book.check(0, 1);
        DUE.is("no years since", book.rate(3), 500000);
    }

    private static void numbersInOrder() {
        DUE.sentence("A FACT more .. its number");
        GuideBook book = new GuideBook();
        DUE.is("the first", book.fact(5, 9, 1), 0);
        DUE.is("a refused one", book.fact(5, 10, 1), -1);
        DUE.is("the second", book.fact(0, 0, 1), 1);
        DUE.is("one like the first", book.fact(5, 9, 1), 2);
    }

    private static void lengths() {
        DUE.sentence("a FACT's line has a length (1 to 9; 1 at first)");
        GuideBook book = new GuideBook();
        book.fact(0, 0, 1);
        DUE.is("at first", book.look(0, 4), 1);
        DUE.is("line(0, 9, 5)", book.line(0, 9, 5), true);
        DUE.is("length", book.look(0, 4), 9);
        DUE.is("line(0, 10, 6)", book.line(0, 10, 6), false);
        DUE.is("line(0, 0, 6)", book.line(0, 0, 6), false);
        DUE.is("line(0, -1, 6)", book.line(0, -1, 6), false);
        DUE.is("line(0, MIN, 6)", book.line(0, Integer.MIN_VALUE, 6), false);
        DUE.is("line(0, MAX, 6)", book.line(0, Integer.MAX_VALUE, 6), false);
        DUE.is("length", book.look(0, 4), 9);
        DUE.is("worth", book.look(0, 5), 5);
        DUE.is("line(0, 1, 5)", book.line(0, 1, 5), true);
        DUE.is("length", book.look(0, 4), 1);
    }

    private static void worths() {
        DUE.sentence("a worth (0 to 999; 1 at first)");
        GuideBook book = new GuideBook();
        book.fact(0, 0, 1);
        DUE.is("at first", book.look(0, 5), 1);
        DUE.is("line(0, 2, 999)", book.line(0, 2, 999), true);
        DUE.is("worth", book.look(0, 5), 999);
        DUE.is("line(0, 3, 1000)", book.line(0, 3, 1000), false);
        DUE.is("line(0, 3, -1)", book.line(0, 3, -1), false);
        DUE.is("line(0, 3, MIN)", book.line(0, 3, Integer.MIN_VALUE), false);
        DUE.is("line(0, 3, MAX)", book.line(0, 3, Integer.MAX_VALUE), false);
        DUE.is("worth", book.look(0, 5), 999);
        DUE.is("length", book.look(0, 4), 2);
        DUE.is("line(0, 2, 0)", book.line(0, 2, 0), true);
        DUE.is("worth", book.look(0, 5), 0);
    }

    private static void linesOfNoFact() {
        DUE.sentence("A FACT's line: true; false: no such FACT, other numbers.");
        GuideBook book = new GuideBook();
        DUE.is("line(0, 1, 1) without facts", book.line(0, 1, 1), false);
        book.fact(0, 0, 1);
        book.fact(0, 0, 1);
        DUE.is("line(1, 2, 3)", book.line(1, 2, 3), true);
        DUE.is("line(2, 2, 3)", book.line(2, 2, 3), false);
        DUE.is("line(-1, 2, 3)", book.line(-1, 2, 3), false);
        DUE.is("line(MIN, 2, 3)", book.line(Integer.MIN_VALUE, 2, 3), false);
        DUE.is("line(MAX, 2, 3)", book.line(Integer.MAX_VALUE, 2, 3), false);
        DUE.is("another fact's length", book.look(0, 4), 1);
        DUE.is("another fact's worth", book.look(0, 5), 1);
        book.fact(0, 0, 1);
        DUE.is("the next fact's length at first", book.look(2, 4), 1);
        GuideBook full = Books.fullOfFacts();
        DUE.is("line(59, 9, 999)", full.line(59, 9, 999), true);
        DUE.is("line(60, 9, 999)", full.line(60, 9, 999), false);
    }

    private static void yearsOfAKind() {
        DUE.sentence("With y YEARS since its last check: y is added to its kind's years");
        GuideBook book = new GuideBook();
        book.fact(1, 0, 5);
        book.fact(1, 9, 5);
        book.fact(2, 0, 5);
        book.check(0, 5);
        DUE.is("y is 0", book.rate(1), 500000);
        book.years(1);
        book.check(0, 5);
        DUE.is("y is 1", book.rate(1), 666666);
        book.check(0, 5);
        DUE.is("y is 0 behind it", book.rate(1), 666666);
        Books.pass(book, 98);
        book.check(0, 5);
        DUE.is("y is 98, of 99", book.rate(1), 1000000L * 100 / 101);
        book.check(1, 5);
        DUE.is("y is 99", book.rate(1), 1000000L * 199 / 200);
        DUE.is("another kind's", book.rate(2), 500000);
    }

    private static void changesOfAKind() {
        DUE.sentence("if the value is another one, 1 to its kind's changes");
        GuideBook book = new GuideBook();
        book.fact(5, 0, 9999);
        book.fact(4, 0, 9999);
        Books.pass(book, 8);
        book.check(0, 9999);
        DUE.is("no change", book.rate(5), 900000);
        book.check(0, 9998);
        DUE.is("one less", book.rate(5), 800000);
        book.check(0, 9999);
        DUE.is("one more", book.rate(5), 700000);
        book.check(0, 0);
        DUE.is("far off", book.rate(5), 600000);
        book.check(0, 0);
        DUE.is("still so", book.rate(5), 600000);
        DUE.is("another kind's", book.rate(4), 500000);
    }

    private static void sureFromThenOn() {
        DUE.sentence("The value is that from then on, sure.");
        GuideBook book = new GuideBook();
        book.fact(0, 0, 9);
        book.fact(0, 0, 9);
        Books.pass(book, 99);
        DUE.is("not sure ahead of it", book.chance(0), 0);
        book.check(0, 8);
        DUE.is("value", book.look(0, 2), 8);
        DUE.is("chance", book.chance(0), 1000000);
        DUE.is("year", book.look(0, 3), 99);
        DUE.is("believed", book.believed(0), 8);
        DUE.is("another fact's value", book.look(1, 2), 9);
        DUE.is("another fact's year", book.look(1, 3), 0);
    }

    private static void answersOfACheck() {
        DUE.sentence("A CHECK: 1 if the value is another one, 0 if it is still so");
        GuideBook book = new GuideBook();
        book.fact(0, 0, 1);
        DUE.is("still so", book.check(0, 1), 0);
        DUE.is("0", book.check(0, 0), 1);
        DUE.is("0 again", book.check(0, 0), 0);
        DUE.is("9999", book.check(0, 9999), 1);
        DUE.is("9999 again", book.check(0, 9999), 0);
        book.letter(0, 0, 3);
        DUE.is("as a letter says, but another one", book.check(0, 3), 1);
        DUE.is("back", book.check(0, 9999), 1);
    }

    private static void checksRefused() {
        DUE.sentence("A CHECK .. NONE: no such FACT, value.");
        GuideBook book = new GuideBook();
        DUE.is("check(0, 0) without facts", book.check(0, 0), -1);
        book.fact(0, 0, 5);
        book.years(1);
        book.letter(0, 0, 6);
        book.edition();
        int[][] refused = {{0, -1}, {0, 10000}, {0, Integer.MIN_VALUE}, {0, Integer.MAX_VALUE},
            {1, 6}, {-1, 6}, {Integer.MIN_VALUE, 6}, {Integer.MAX_VALUE, 6}};
        for (int[] call : refused) {
            DUE.is("check(" + call[0] + ", " + call[1] + ")", book.check(call[0], call[1]), -1);
        }
        DUE.is("value", book.look(0, 2), 5);
        DUE.is("year", book.look(0, 3), 0);
        DUE.is("rate", book.rate(0), 500000);
        DUE.is("the letter is open", book.proof(0), 0);
        DUE.is("no error", book.errors(0, -1), 0);
    }

    private static void rateIsCut() {
        DUE.sentence("in millionths, cut: 1000000 * (years + 1 - changes) / (years + 2)");
        for (int years = 0; years <= 99; years++) {
            GuideBook book = new GuideBook();
            book.fact(0, 0, 0);
            Books.pass(book, years);
            book.check(0, 0);
            DUE.is(years + " years", book.rate(0), 1000000L * (years + 1) / (years + 2));
            book.check(0, 1);
            DUE.is(years + " years, a change", book.rate(0), 1000000L * years / (years + 2));
        }
        GuideBook most = Books.fullOfFacts(0);
        Books.pass(most, 99);
        for (int fact = 0; fact < 60; fact++) {
            most.check(fact, 0);
        }
        DUE.is("5940 years", most.rate(0), 1000000L * 5941 / 5942);
    }

    private static void rateIsZeroAtLeast() {
        DUE.sentence("A kind's RATE .. 0 at least");
        GuideBook book = new GuideBook();
        book.fact(0, 0, 0);
        Books.pass(book, 3);
        for (int change = 1; change <= 10; change++) {
            book.check(0, change);
            long due = change < 4 ? 1000000L * (4 - change) / 5 : 0;
            DUE.is("3 years, changes: " + change, book.rate(0), due);
        }
        book.years(1);
        DUE.is("a chance of 0", book.chance(0), 0);
        DUE.is("its doubt", book.plan(1, 1), 1000);
    }

    private static void noSuchKind() {
        DUE.sentence("A kind's RATE; NONE: none such.");
        GuideBook book = new GuideBook();
        DUE.is("rate(0)", book.rate(0), 500000);
        DUE.is("rate(5)", book.rate(5), 500000);
        DUE.is("rate(-1)", book.rate(-1), -1);
        DUE.is("rate(6)", book.rate(6), -1);
        DUE.is("rate(MIN)", book.rate(Integer.MIN_VALUE), -1);
        DUE.is("rate(MAX)", book.rate(Integer.MAX_VALUE), -1);
    }

    private static void chanceOfNoYears() {
        DUE.sentence("1000000, times RATE / 1000000, cut, for each YEAR since its last check");
        GuideBook book = new GuideBook();
        book.fact(0, 0, 0);
        book.fact(0, 0, 0);
        book.years(1);
        book.check(0, 0);
        DUE.is("no year", book.chance(0), 1000000);
        DUE.is("one year", book.chance(1), 666666);
        book.check(0, 1);
        book.check(0, 2);
        DUE.is("a rate of 0, no year", book.chance(0), 1000000);
        DUE.is("a rate of 0, one year", book.chance(1), 0);
    }

    private static void chanceIsCutEachYear() {
        DUE.sentence("times RATE / 1000000, cut, for each YEAR");
        GuideBook book = new GuideBook();
        book.fact(0, 0, 0);
        book.fact(0, 0, 0);
        book.years(1);
        book.check(0, 0);
        book.years(1);
        // 666666 * 666666 is 444443555556, and 444443 * 666666 is 296295037038.
        DUE.is("two years", book.chance(1), 444443);
        book.years(1);
        DUE.is("three years", book.chance(1), 296295);
        DUE.is("two years of the other", book.chance(0), 444443);
        long chance = 296295;
        for (int year = 3; year < 99; year++) {
            chance = chance * 666666 / 1000000;
            book.years(1);
            DUE.is("in the year " + (year + 1), book.chance(1), chance);
        }
    }

    private static void noSuchFact() {
        DUE.sentence("A FACT's CHANCE; NONE: none such.");
        GuideBook book = new GuideBook();
        DUE.is("chance(0) without facts", book.chance(0), -1);
        book.fact(0, 0, 0);
        DUE.is("chance(0)", book.chance(0), 1000000);
        DUE.is("chance(1)", book.chance(1), -1);
        DUE.is("chance(-1)", book.chance(-1), -1);
        DUE.is("chance(MIN)", book.chance(Integer.MIN_VALUE), -1);
        DUE.is("chance(MAX)", book.chance(Integer.MAX_VALUE), -1);
        GuideBook full = Books.fullOfFacts();
        DUE.is("chance(59)", full.chance(59), 1000000);
        DUE.is("chance(60)", full.chance(60), -1);
    }

    private static void countsOfTheEmpty() {
        DUE.sentence("NONE for another what.");
        GuideBook book = new GuideBook();
        for (int what = 0; what <= 6; what++) {
            DUE.is("count(" + what + ") of a new object", book.count(what), 0);
        }
        DUE.is("count(-1)", book.count(-1), -1);
        DUE.is("count(7)", book.count(7), -1);
        DUE.is("count(MIN)", book.count(Integer.MIN_VALUE), -1);
        DUE.is("count(MAX)", book.count(Integer.MAX_VALUE), -1);
    }

    private static void countsOfTheFull() {
        DUE.sentence("What 0: FACTS, 1: NOW, 2: LETTERS, 3: open ones, 4: EDITIONS, "
            + "5: lines of the text, 6: signs on the TAPE.");
        GuideBook book = Books.fullOfFacts();
        Books.pass(book, 99);
        for (int n = 0; n < 101; n++) {
            book.letter(n % 20, n % 60, n);
        }
        for (int n = 0; n < 11; n++) {
            book.edition();
        }
        Signs.read(book, "star 1 when 1;".repeat(16));
        Signs.feed(book, "x".repeat(610));
        int[] due = {60, 99, 100, 100, 10, 16, 600};
        for (int what = 0; what < due.length; what++) {
            DUE.is("count(" + what + ")", book.count(what), due[what]);
        }
        book.check(59, 1);
        DUE.is("one letter was on 59", book.count(3), 99);
        book.check(0, 1);
        DUE.is("two were on 0", book.count(3), 97);
        DUE.is("LETTERS", book.count(2), 100);
    }

    private static void looks() {
        DUE.sentence("Of a FACT, what 0: kind, 1: PLACE, 2: value, 3: the YEAR of the last check, "
            + "4: length, 5: worth.");
        GuideBook book = Books.inYear(3);
        book.fact(0, 0, 0);
        book.fact(4, 8, 1234);
        book.line(1, 7, 77);
        int[] due = {4, 8, 1234, 3, 7, 77};
        for (int what = 0; what < due.length; what++) {
            DUE.is("look(1, " + what + ")", book.look(1, what), due[what]);
        }
        GuideBook full = Books.fullOfFacts();
        DUE.is("look(59, 5)", full.look(59, 5), 1);
    }

    private static void lookThrows() {
        DUE.sentence("look .. NoSuchElementException: none such.");
        GuideBook empty = new GuideBook();
        DUE.noSuchElement("look(0, 0) without facts", () -> empty.look(0, 0));
        GuideBook book = new GuideBook();
        book.fact(0, 0, 0);
        int[][] none = {{1, 0}, {-1, 0}, {Integer.MIN_VALUE, 0}, {Integer.MAX_VALUE, 0}, {0, -1},
            {0, 6}, {0, Integer.MIN_VALUE}, {0, Integer.MAX_VALUE}, {1, 6}};
        for (int[] call : none) {
            DUE.noSuchElement("look(" + call[0] + ", " + call[1] + ")",
                () -> book.look(call[0], call[1]));
        }
        DUE.is("look(0, 4) behind them", book.look(0, 4), 1);
        GuideBook full = Books.fullOfFacts();
        DUE.noSuchElement("look(60, 0)", () -> full.look(60, 0));
    }

    private static void theLastCall() {
        DUE.sentence("An object is used for at most 512 calls");
        GuideBook book = new GuideBook();
        book.fact(0, 0, 0);
        for (int call = 2; call < 512; call++) {
            DUE.is("check, call " + call, book.check(0, call), 1);
        }
        DUE.is("the 512th call", book.look(0, 2), 511);
    }
}
