/** Promises 1 to 7, 25 and 26: a new object, years, fact, line, check, rate, chance, count, look. */
public final class FactsTest {
    private static final Due DUE = new Due();

    public static void main(String[] args) {
        newObject();
        years();
        facts();
        fullOfFacts();
        lines();
        checks();
        rates();
        rateIsNeverBelowZero();
        chances();
        counts();
        looks();
        DUE.end();
    }

    private static void newObject() {
        GuideBook book = new GuideBook();
        for (int what = 0; what <= 6; what++) {
            DUE.is("new: count(" + what + ")", book.count(what), 0);
        }
        DUE.is("new: chance(0)", book.chance(0), -1);
        DUE.is("new: check(0, 0)", book.check(0, 0), -1);
        DUE.is("new: line(0, 1, 1)", book.line(0, 1, 1), false);
        DUE.is("new: number(0, 5)", book.number(0, 5), -1);
        DUE.is("new: proof(0)", book.proof(0), -1);
        DUE.is("new: printed(0, 1, 0)", book.printed(0, 1, 0), -1);
        DUE.is("new: errors(0, -1)", book.errors(0, -1), -1);
        for (int kind = 0; kind < 6; kind++) {
            DUE.is("new: rate", book.rate(kind), 500000);
        }
        for (int reader = 0; reader < 20; reader++) {
            DUE.is("new: weight", book.weight(reader), 500);
        }
        for (int place = 0; place < 10; place++) {
            DUE.is("new: stars", book.stars(place), 0);
        }
    }

    private static void years() {
        GuideBook book = new GuideBook();
        DUE.is("years(0)", book.years(0), 0);
        DUE.is("years(-1)", book.years(-1), -1);
        DUE.is("years(21)", book.years(21), -1);
        DUE.is("years(MAX)", book.years(Integer.MAX_VALUE), -1);
        DUE.is("years(MIN)", book.years(Integer.MIN_VALUE), -1);
        DUE.is("count(1)", book.count(1), 0);
        DUE.is("years(20)", book.years(20), 20);
        DUE.is("years(20)", book.years(20), 40);
        DUE.is("years(20)", book.years(20), 60);
        DUE.is("years(20)", book.years(20), 80);
        DUE.is("years(20) beyond 99", book.years(20), -1);
        DUE.is("count(1)", book.count(1), 80);
        DUE.is("years(19)", book.years(19), 99);
        DUE.is("years(1) beyond 99", book.years(1), -1);
        DUE.is("years(0)", book.years(0), 99);
    }

    private static void facts() {
        GuideBook book = new GuideBook();
        DUE.is("fact(-1, 0, 0)", book.fact(-1, 0, 0), -1);
        DUE.is("fact(6, 0, 0)", book.fact(6, 0, 0), -1);
        DUE.is("fact(0, -1, 0)", book.fact(0, -1, 0), -1);
        DUE.is("fact(0, 10, 0)", book.fact(0, 10, 0), -1);
        DUE.is("fact(0, 0, -1)", book.fact(0, 0, -1), -1);
        DUE.is("fact(0, 0, 10000)", book.fact(0, 0, 10000), -1);
        DUE.is("count(0)", book.count(0), 0);
        DUE.is("fact(0, 0, 0)", book.fact(0, 0, 0), 0);
        book.years(7);
        DUE.is("fact(5, 9, 9999)", book.fact(5, 9, 9999), 1);
        int[] first = {0, 0, 0, 0, 1, 1};
        int[] second = {5, 9, 9999, 7, 1, 1};
        for (int what = 0; what < 6; what++) {
            DUE.is("look(0, " + what + ")", book.look(0, what), first[what]);
            DUE.is("look(1, " + what + ")", book.look(1, what), second[what]);
        }
        DUE.is("a new fact is no CHECK: rate(5)", book.rate(5), 500000);
    }

    private static void fullOfFacts() {
        GuideBook book = new GuideBook();
        for (int n = 0; n < 60; n++) {
            DUE.is("fact " + n, book.fact(n % 6, n % 10, n), n);
        }
        DUE.is("a 61st fact", book.fact(0, 0, 0), -1);
        DUE.is("count(0)", book.count(0), 60);
        DUE.is("look(59, 2)", book.look(59, 2), 59);
        DUE.noSuchElement("look(60, 2)", () -> book.look(60, 2));
    }

    private static void lines() {
        GuideBook book = new GuideBook();
        book.fact(0, 0, 0);
        DUE.is("line(0, 9, 999)", book.line(0, 9, 999), true);
        DUE.is("length", book.look(0, 4), 9);
        DUE.is("worth", book.look(0, 5), 999);
        DUE.is("line(0, 1, 0)", book.line(0, 1, 0), true);
        DUE.is("length", book.look(0, 4), 1);
        DUE.is("worth", book.look(0, 5), 0);
        DUE.is("line(0, 0, 5)", book.line(0, 0, 5), false);
        DUE.is("line(0, 10, 5)", book.line(0, 10, 5), false);
        DUE.is("line(0, 5, -1)", book.line(0, 5, -1), false);
        DUE.is("line(0, 5, 1000)", book.line(0, 5, 1000), false);
        DUE.is("line(1, 5, 5)", book.line(1, 5, 5), false);
        DUE.is("line(-1, 5, 5)", book.line(-1, 5, 5), false);
        DUE.is("length", book.look(0, 4), 1);
        DUE.is("worth", book.look(0, 5), 0);
    }

    private static void checks() {
        GuideBook book = new GuideBook();
        book.fact(2, 0, 10);
        book.years(3);
        DUE.is("check(0, -1)", book.check(0, -1), -1);
        DUE.is("check(0, 10000)", book.check(0, 10000), -1);
        DUE.is("check(1, 10)", book.check(1, 10), -1);
        DUE.is("check(-1, 10)", book.check(-1, 10), -1);
        DUE.is("a wrong CHECK is none", book.look(0, 3), 0);
        DUE.is("check(0, 10)", book.check(0, 10), 0);
        DUE.is("year", book.look(0, 3), 3);
        DUE.is("check(0, 0)", book.check(0, 0), 1);
        DUE.is("check(0, 0) again", book.check(0, 0), 0);
        DUE.is("check(0, 9999)", book.check(0, 9999), 1);
        DUE.is("value", book.look(0, 2), 9999);
        DUE.is("kind stays", book.look(0, 0), 2);
    }

    private static void rates() {
        GuideBook book = new GuideBook();
        book.fact(1, 0, 10);
        book.fact(1, 5, 10);
        book.fact(3, 5, 10);
        book.years(5);
        book.check(0, 10);
        DUE.is("5 years, no change", book.rate(1), 1000000 * 6 / 7);
        book.check(1, 11);
        DUE.is("10 years, 1 change", book.rate(1), 1000000 * 10 / 12);
        book.check(1, 11);
        DUE.is("a CHECK in the same year adds nothing", book.rate(1), 833333);
        DUE.is("another kind", book.rate(3), 500000);
        DUE.is("rate(-1)", book.rate(-1), -1);
        DUE.is("rate(6)", book.rate(6), -1);
        DUE.is("rate(5)", book.rate(5), 500000);
    }

    private static void rateIsNeverBelowZero() {
        GuideBook book = new GuideBook();
        book.fact(0, 0, 0);
        book.check(0, 1);
        DUE.is("one change in no year", book.rate(0), 0);
        book.check(0, 2);
        book.check(0, 3);
        DUE.is("three changes in no year", book.rate(0), 0);
        DUE.is("chance in the year of the CHECK", book.chance(0), 1000000);
        book.years(1);
        DUE.is("chance at rate 0", book.chance(0), 0);
    }

    private static void chances() {
        GuideBook book = new GuideBook();
        book.fact(4, 0, 10);
        book.fact(4, 0, 10);
        DUE.is("chance(-1)", book.chance(-1), -1);
        DUE.is("chance(2)", book.chance(2), -1);
        DUE.is("sure at first", book.chance(0), 1000000);
        book.years(5);
        DUE.is("500000 for 5 years", book.chance(0), 31250);
        book.check(1, 10);
        DUE.is("checked: sure", book.chance(1), 1000000);
        // The rate is 857142: cut in each of the five years.
        long chance = 1000000;
        for (int year = 0; year < 5; year++) {
            chance = chance * 857142 / 1000000;
        }
        DUE.is("857142 for 5 years", book.chance(0), chance);
        for (int n = 0; n < 4; n++) {
            book.years(20);
        }
        book.years(14);
        DUE.is("the year 99", book.count(1), 99);
        for (int year = 5; year < 99; year++) {
            chance = chance * 857142 / 1000000;
        }
        DUE.is("857142 for 99 years", book.chance(0), chance);
    }

    private static void counts() {
        GuideBook book = new GuideBook();
        book.fact(0, 0, 1);
        book.fact(0, 0, 1);
        book.fact(0, 0, 1);
        book.years(11);
        book.letter(0, 0, 1);
        book.letter(0, 1, 1);
        book.check(0, 1);
        book.edition();
        Signs.read(book, "star 1 when 1; star 2 when 2; star 3 when 3; star 4 when 4;");
        Signs.feed(book, "seven s");
        int[] due = {3, 11, 2, 1, 1, 4, 7};
        for (int what = 0; what < due.length; what++) {
            DUE.is("count(" + what + ")", book.count(what), due[what]);
        }
        DUE.is("count(7)", book.count(7), -1);
        DUE.is("count(-1)", book.count(-1), -1);
    }

    private static void looks() {
        GuideBook book = new GuideBook();
        DUE.noSuchElement("look(0, 0) without facts", () -> book.look(0, 0));
        book.fact(0, 0, 0);
        DUE.noSuchElement("look(0, 6)", () -> book.look(0, 6));
        DUE.noSuchElement("look(0, -1)", () -> book.look(0, -1));
        DUE.noSuchElement("look(1, 0)", () -> book.look(1, 0));
        DUE.noSuchElement("look(-1, 0)", () -> book.look(-1, 0));
    }
}
