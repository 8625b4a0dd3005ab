import java.util.Random;

/** Promises 8 and 9: takes, plan. */
public final class PlanTest {
    private static final Due DUE = new Due();

    public static void main(String[] args) {
        takes();
        wrongPlans();
        emptyPlans();
        leastDays();
        leastNumber();
        doubtIsCutOnce();
        fullBook();
        everySet();
        DUE.end();
    }

    private static void takes() {
        GuideBook book = new GuideBook();
        DUE.is("takes(0, 1)", book.takes(0, 1), true);
        DUE.is("takes(9, 20)", book.takes(9, 20), true);
        DUE.is("takes(0, 0)", book.takes(0, 0), false);
        DUE.is("takes(0, 21)", book.takes(0, 21), false);
        DUE.is("takes(-1, 1)", book.takes(-1, 1), false);
        DUE.is("takes(10, 1)", book.takes(10, 1), false);
        book.fact(0, 9, 1);
        book.years(1);
        DUE.is("19 days are too few", book.plan(19, 0), 0);
        DUE.is("20 days are not", book.plan(20, 0), 512);
        DUE.is("wrong days change nothing", book.takes(9, 0), false);
        DUE.is("still 20 days", book.plan(19, 0), 0);
    }

    private static void wrongPlans() {
        GuideBook book = new GuideBook();
        DUE.is("plan(-1, 0)", book.plan(-1, 0), -1);
        DUE.is("plan(100, 0)", book.plan(100, 0), -1);
        DUE.is("plan(5, 2)", book.plan(5, 2), -1);
        DUE.is("plan(5, -1)", book.plan(5, -1), -1);
    }

    private static void emptyPlans() {
        GuideBook book = new GuideBook();
        DUE.is("no facts", book.plan(99, 0), 0);
        book.fact(0, 3, 1);
        DUE.is("no doubt: no place", book.plan(99, 0), 0);
        DUE.is("no doubt", book.plan(99, 1), 0);
        book.years(1);
        DUE.is("each place takes 1 day at first", book.plan(1, 0), 8);
        DUE.is("its doubt", book.plan(1, 1), 500);
        DUE.is("no days", book.plan(0, 0), 0);
        DUE.is("no days lessen nothing", book.plan(0, 1), 0);
    }

    private static void leastDays() {
        GuideBook book = new GuideBook();
        book.fact(0, 0, 1);
        book.fact(0, 1, 1);
        book.years(1);
        book.takes(0, 4);
        book.takes(1, 3);
        DUE.is("of equal doubt the fewer days", book.plan(6, 0), 2);
        DUE.is("both", book.plan(7, 0), 3);
    }

    private static void leastNumber() {
        GuideBook book = new GuideBook();
        for (int place = 0; place < 4; place++) {
            book.fact(0, place, 1);
        }
        book.fact(0, 3, 1);
        book.fact(0, 2, 1);
        book.years(1);
        book.takes(2, 2);
        book.takes(3, 2);
        // 0 and 1 together, 2 alone and 3 alone lessen as much in as many days.
        DUE.is("the least number", book.plan(2, 0), 3);
        DUE.is("the least number of three days", book.plan(3, 0), 5);
    }

    private static void doubtIsCutOnce() {
        GuideBook book = new GuideBook();
        for (int place = 0; place < 3; place++) {
            book.fact(0, place, 1);
        }
        book.fact(0, 9, 1);
        book.years(1);
        book.check(3, 1);
        // The rate is 666666, so each place has a doubt of 333334: three make 1000002.
        DUE.is("one", book.plan(1, 1), 333);
        DUE.is("three", book.plan(3, 1), 1000);

        GuideBook exact = new GuideBook();
        exact.fact(0, 0, 1);
        exact.fact(0, 0, 1);
        exact.fact(1, 1, 1);
        exact.years(1);
        DUE.is("exactly 1500000", exact.plan(9, 1), 1500);
    }

    private static void fullBook() {
        GuideBook book = new GuideBook();
        for (int n = 0; n < 60; n++) {
            book.fact(n % 6, n % 10, 1);
        }
        for (int n = 0; n < 4; n++) {
            book.years(20);
        }
        DUE.is("all places", book.plan(10, 0), 1023);
        DUE.is("all doubt", book.plan(99, 1), 60000);
    }

    private static void everySet() {
        Random random = new Random(9);
        for (int run = 0; run < 300; run++) {
            GuideBook book = new GuideBook();
            int[] days = new int[10];
            for (int place = 0; place < 10; place++) {
                days[place] = 1 + random.nextInt(run % 2 == 0 ? 3 : 20);
                book.takes(place, days[place]);
            }
            for (int n = random.nextInt(25); n > 0; n--) {
                book.fact(random.nextInt(3), random.nextInt(10), 1);
                if (random.nextInt(3) == 0) {
                    book.years(random.nextInt(3));
                }
            }
            for (int fact = 0; fact < book.count(0); fact += 3) {
                book.check(fact, random.nextInt(2));
            }
            int room = random.nextInt(run % 2 == 0 ? 20 : 100);
            compare(book, days, room);
        }
    }

    private static void compare(GuideBook book, int[] days, int room) {
        long[] doubts = doubts(book);
        int best = 0;
        long bestDoubt = 0;
        int bestDays = 0;
        for (int set = 1; set < 1024; set++) {
            int taken = 0;
            long doubt = 0;
            for (int place = 0; place < 10; place++) {
                if ((set >> place & 1) == 1) {
                    taken += days[place];
                    doubt += doubts[place];
                }
            }
            boolean better = doubt > bestDoubt || doubt == bestDoubt && taken < bestDays;
            if (taken <= room && better) {
                best = set;
                bestDoubt = doubt;
                bestDays = taken;
            }
        }
        DUE.is("plan(" + room + ", 0)", book.plan(room, 0), best);
        DUE.is("plan(" + room + ", 1)", book.plan(room, 1), bestDoubt / 1000);
    }

    /** The doubt of each place; asked once, as an object is used for 512 calls at most. */
    private static long[] doubts(GuideBook book) {
        long[] doubts = new long[10];
        int facts = book.count(0);
        for (int fact = 0; fact < facts; fact++) {
            doubts[book.look(fact, 1)] += 1000000 - book.chance(fact);
        }
        return doubts;
    }
}
