/** The edges of promises 8 and 9 and of their terms, a sentence of the document each. */
public final class PlanEdgesTest {
    private static final Due DUE = new Due();

    public static void main(String[] args) {
        daysOfAPlace();
        oneDayAtFirst();
        noSuchPlace();
        daysOfAPlan();
        whatOfAPlan();
        noFact();
        noDoubt();
        sumOfItsFacts();
        addUpToNoMore();
        ninetyNineDays();
        lessensMost();
        leastDays();
        leastNumber();
        thousandsCut();
        lessThanAThousand();
        mostDoubt();
        DUE.end();
    }

    private static void daysOfAPlace() {
        DUE.sentence("each PLACE takes days (1 to 20 ..)");
        GuideBook book = agedPlaces(1);
        DUE.is("takes(0, 20)", book.takes(0, 20), true);
        DUE.is("takes(0, 21)", book.takes(0, 21), false);
        DUE.is("takes(0, 0)", book.takes(0, 0), false);
        DUE.is("takes(0, -1)", book.takes(0, -1), false);
        DUE.is("takes(0, MIN)", book.takes(0, Integer.MIN_VALUE), false);
        DUE.is("takes(0, MAX)", book.takes(0, Integer.MAX_VALUE), false);
        DUE.is("19 days for 20", book.plan(19, 0), 0);
        DUE.is("20 days for 20", book.plan(20, 0), 1);
        DUE.is("takes(0, 1)", book.takes(0, 1), true);
        DUE.is("1 day for 1", book.plan(1, 0), 1);
        DUE.is("0 days for 1", book.plan(0, 0), 0);
    }

    private static void oneDayAtFirst() {
        DUE.sentence("each PLACE takes days (.. 1 at first)");
        GuideBook book = agedPlaces(10);
        for (int days = 0; days <= 10; days++) {
            DUE.is("plan(" + days + ", 0)", book.plan(days, 0), (1 << days) - 1);
        }
    }

    private static void noSuchPlace() {
        DUE.sentence("How many days a PLACE takes: true; false: none such, other days.");
        GuideBook book = agedPlaces(10);
        DUE.is("takes(-1, 2)", book.takes(-1, 2), false);
        DUE.is("takes(10, 2)", book.takes(10, 2), false);
        DUE.is("takes(MIN, 2)", book.takes(Integer.MIN_VALUE, 2), false);
        DUE.is("takes(MAX, 2)", book.takes(Integer.MAX_VALUE, 2), false);
        DUE.is("no place takes more", book.plan(10, 0), 1023);
        DUE.is("takes(0, 2)", book.takes(0, 2), true);
        DUE.is("without place 0", book.plan(9, 0), 1022);
        DUE.is("takes(0, 1)", book.takes(0, 1), true);
        DUE.is("takes(9, 2)", book.takes(9, 2), true);
        DUE.is("without place 9", book.plan(9, 0), 511);
    }

    private static void daysOfAPlan() {
        DUE.sentence("PLAN for so many days (0 to 99) .. NONE: other days");
        GuideBook book = agedPlaces(10);
        DUE.is("plan(0, 0)", book.plan(0, 0), 0);
        DUE.is("plan(0, 1)", book.plan(0, 1), 0);
        DUE.is("plan(99, 0)", book.plan(99, 0), 1023);
        DUE.is("plan(99, 1)", book.plan(99, 1), 5000);
        int[] others = {-1, 100, Integer.MIN_VALUE, Integer.MAX_VALUE};
        for (int days : others) {
            DUE.is("plan(" + days + ", 0)", book.plan(days, 0), -1);
            DUE.is("plan(" + days + ", 1)", book.plan(days, 1), -1);
        }
    }

    private static void whatOfAPlan() {
        DUE.sentence("PLAN, what 0: the set, 1: DOUBT that it lessens .. NONE: .. what");
        GuideBook book = agedPlaces(2);
        DUE.is("plan(5, 0)", book.plan(5, 0), 3);
        DUE.is("plan(5, 1)", book.plan(5, 1), 1000);
        int[] others = {-1, 2, Integer.MIN_VALUE, Integer.MAX_VALUE};
        for (int what : others) {
            DUE.is("plan(5, " + what + ")", book.plan(5, what), -1);
            DUE.is("plan(0, " + what + ")", book.plan(0, what), -1);
        }
    }

    private static void noFact() {
        DUE.sentence("No FACT .. Of all sets of PLACES .. that with the least days");
        GuideBook book = Books.inYear(99);
        DUE.is("plan(99, 0)", book.plan(99, 0), 0);
        DUE.is("plan(99, 1)", book.plan(99, 1), 0);
        DUE.is("plan(0, 0)", book.plan(0, 0), 0);
        DUE.is("plan(0, 1)", book.plan(0, 1), 0);
    }

    private static void noDoubt() {
        DUE.sentence("lessens DOUBT most; of equal ones that with the least days");
        GuideBook book = agedPlaces(10);
        for (int fact = 0; fact < 10; fact++) {
            if (fact != 4) {
                book.check(fact, 0);
            }
        }
        DUE.is("plan(99, 0)", book.plan(99, 0), 16);
        book.check(4, 0);
        DUE.is("plan(99, 0), all are sure", book.plan(99, 0), 0);
        DUE.is("plan(99, 1), all are sure", book.plan(99, 1), 0);
    }

    private static void sumOfItsFacts() {
        DUE.sentence("lessens DOUBT: the sum of 1000000 - CHANCE of its FACTS");
        GuideBook book = new GuideBook();
        book.fact(0, 0, 0);
        book.years(1);
        book.fact(0, 1, 0);
        book.fact(0, 1, 0);
        book.years(1);
        book.fact(0, 1, 0);
        DUE.is("750000 against twice 500000 and a sure one", book.plan(1, 0), 2);
        DUE.is("its doubt", book.plan(1, 1), 1000);
        DUE.is("both", book.plan(2, 1), 1750);
        book.check(1, 0);
        // Of kind 0 it is 1 year without a change: the rate is 666666.
        DUE.is("555557 against 333334", book.plan(1, 0), 1);
        DUE.is("its doubt", book.plan(1, 1), 555);
    }

    private static void addUpToNoMore() {
        DUE.sentence("Of all sets of PLACES whose days add up to no more");
        GuideBook book = agedPlaces(3);
        book.takes(0, 5);
        book.takes(1, 6);
        book.takes(2, 7);
        DUE.is("plan(4, 0)", book.plan(4, 0), 0);
        DUE.is("plan(5, 0)", book.plan(5, 0), 1);
        DUE.is("plan(10, 0)", book.plan(10, 0), 1);
        DUE.is("plan(11, 0)", book.plan(11, 0), 3);
        DUE.is("plan(17, 0)", book.plan(17, 0), 3);
        DUE.is("plan(18, 0)", book.plan(18, 0), 7);
    }

    private static void ninetyNineDays() {
        DUE.sentence("PLAN for so many days (.. 99)");
        GuideBook book = agedPlaces(5);
        for (int place = 0; place < 5; place++) {
            book.takes(place, 20);
        }
        DUE.is("100 days are too many", book.plan(99, 0), 15);
        book.takes(4, 19);
        DUE.is("98 days are one too few", book.plan(98, 1), 2000);
        DUE.is("99 days are not too many", book.plan(99, 0), 31);
    }

    private static void lessensMost() {
        DUE.sentence("that which lessens DOUBT most");
        GuideBook book = new GuideBook();
        book.fact(0, 0, 0);
        book.fact(0, 0, 0);
        book.fact(0, 0, 0);
        book.fact(0, 1, 0);
        book.fact(0, 1, 0);
        book.fact(0, 2, 0);
        book.fact(0, 2, 0);
        book.years(1);
        book.takes(0, 3);
        book.takes(1, 2);
        book.takes(2, 2);
        DUE.is("the best one alone", book.plan(3, 0), 1);
        DUE.is("two smaller ones lessen more", book.plan(4, 0), 6);
        DUE.is("what they lessen", book.plan(4, 1), 2000);
        book.takes(9, 1);
        book.fact(1, 9, 0);
        DUE.is("a sure fact lessens nothing", book.plan(4, 0), 6);
        GuideBook bit = new GuideBook();
        bit.fact(0, 0, 0);
        bit.fact(1, 1, 0);
        bit.years(1);
        bit.fact(1, 2, 0);
        bit.years(1);
        bit.check(2, 0);
        bit.takes(0, 20);
        // 750000 of place 0 against 1000000 - 444443 of place 1.
        DUE.is("more doubt is worth 20 days", bit.plan(20, 0), 1);
        DUE.is("fewer days do for place 1", bit.plan(19, 0), 2);
    }

    private static void leastDays() {
        DUE.sentence("of equal ones that with the least days");
        GuideBook book = agedPlaces(2);
        book.takes(0, 2);
        DUE.is("place 1 in one day", book.plan(2, 0), 2);
        book.takes(0, 1);
        book.takes(1, 2);
        DUE.is("place 0 in one day", book.plan(2, 0), 1);
        GuideBook three = agedPlaces(3);
        three.fact(0, 3, 0);
        three.fact(0, 3, 0);
        three.years(1);
        three.takes(2, 2);
        three.takes(3, 2);
        three.check(2, 0);
        // The rate is 750000: places 0 and 1 lessen 437500 each in 2 days in all, place 3 twice
        // 250000 in as many.
        DUE.is("two at once", three.plan(2, 0), 3);
        DUE.is("what they lessen", three.plan(2, 1), 875);
    }

    private static void leastNumber() {
        DUE.sentence("of equal ones the least number (bits)");
        GuideBook book = agedPlaces(10);
        DUE.is("one of ten", book.plan(1, 0), 1);
        DUE.is("nine of ten", book.plan(9, 0), 511);
        GuideBook two = new GuideBook();
        two.fact(0, 0, 0);
        two.fact(0, 3, 0);
        two.fact(0, 1, 0);
        two.fact(0, 2, 0);
        two.years(1);
        two.takes(0, 3);
        two.takes(3, 1);
        two.takes(1, 2);
        two.takes(2, 2);
        // Places 0 and 3 (the number 9) and places 1 and 2 (6) lessen as much in 4 days, but
        // 1 and 3 (10) in 3 days.
        DUE.is("least days ahead of the least number", two.plan(4, 0), 10);
        two.takes(3, 5);
        two.takes(0, 2);
        DUE.is("0 and 1, not 0 and 2 nor 1 and 2", two.plan(4, 0), 3);
        GuideBook nine = new GuideBook();
        nine.fact(0, 0, 0);
        nine.fact(0, 9, 0);
        nine.fact(0, 8, 0);
        nine.fact(0, 8, 0);
        nine.years(1);
        nine.takes(8, 2);
        DUE.is("8 alone (256), not 0 and 9 (513)", nine.plan(2, 0), 256);
    }

    private static void thousandsCut() {
        DUE.sentence("DOUBT that it lessens, in thousands of millionths, cut");
        GuideBook book = new GuideBook();
        for (int place = 0; place < 4; place++) {
            book.fact(0, place, 0);
        }
        book.years(1);
        book.check(3, 0);
        // The rate is 666666, so each place lessens 333334.
        int[] due = {0, 333, 666, 1000};
        for (int days = 0; days < due.length; days++) {
            DUE.is("plan(" + days + ", 1)", book.plan(days, 1), due[days]);
        }
        GuideBook old = new GuideBook();
        old.fact(0, 0, 0);
        Books.pass(old, 19);
        DUE.is("the chance", old.chance(0), 1);
        DUE.is("999999 millionths", old.plan(1, 1), 999);
        old.years(1);
        DUE.is("1000000 millionths", old.plan(1, 1), 1000);
    }

    private static void lessThanAThousand() {
        DUE.sentence("in thousands of millionths, cut");
        GuideBook book = Books.fullOfFacts(0);
        Books.pass(book, 98);
        for (int fact = 0; fact < 60; fact++) {
            book.check(fact, 0);
        }
        book.years(1);
        // 5880 years without a change: the rate is 999829, so each of 60 facts lessens 171.
        DUE.is("the rate", book.rate(0), 999829);
        DUE.is("60 * 171 is 10260", book.plan(1, 1), 10);
        for (int fact = 0; fact < 55; fact++) {
            book.check(fact, 0);
        }
        DUE.is("years of the kind: 5935", book.rate(0), 999831);
        DUE.is("5 * 169 is less than a thousand", book.plan(1, 1), 0);
        DUE.is("but lessens", book.plan(1, 0), 1);
    }

    private static void mostDoubt() {
        DUE.sentence("the sum of 1000000 - CHANCE of its FACTS .. FACTS, 60 at most");
        GuideBook book = Books.fullOfFacts(0);
        Books.pass(book, 99);
        DUE.is("plan(1, 1)", book.plan(1, 1), 60000);
        DUE.is("plan(0, 1)", book.plan(0, 1), 0);
        DUE.is("plan(1, 0)", book.plan(1, 0), 1);
    }

    /** A fact of kind 0 on each of so many places, a year old. */
    private static GuideBook agedPlaces(int places) {
        GuideBook book = new GuideBook();
        for (int place = 0; place < places; place++) {
            book.fact(0, place, 0);
        }
        book.years(1);
        return book;
    }
}
