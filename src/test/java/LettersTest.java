/** Promises 10 to 14: letter, weight, believed, quarrel, proof. */
public final class LettersTest {
    private static final Due DUE = new Due();

    public static void main(String[] args) {
        letters();
        fullOfLetters();
        weights();
        ownValueStands();
        greatestSum();
        eachReaderOnce();
        equalSums();
        chanceIsCounted();
        quarrels();
        proofs();
        DUE.end();
    }

    private static void letters() {
        GuideBook book = new GuideBook();
        DUE.is("no fact yet", book.letter(0, 0, 1), -1);
        book.fact(0, 0, 1);
        DUE.is("letter(-1, 0, 1)", book.letter(-1, 0, 1), -1);
        DUE.is("letter(20, 0, 1)", book.letter(20, 0, 1), -1);
        DUE.is("letter(0, 1, 1)", book.letter(0, 1, 1), -1);
        DUE.is("letter(0, -1, 1)", book.letter(0, -1, 1), -1);
        DUE.is("letter(0, 0, -1)", book.letter(0, 0, -1), -1);
        DUE.is("letter(0, 0, 10000)", book.letter(0, 0, 10000), -1);
        DUE.is("count(2)", book.count(2), 0);
        DUE.is("letter(19, 0, 9999)", book.letter(19, 0, 9999), 0);
        DUE.is("letter(0, 0, 0)", book.letter(0, 0, 0), 1);
        DUE.is("count(2)", book.count(2), 2);
        DUE.is("count(3)", book.count(3), 2);
    }

    private static void fullOfLetters() {
        GuideBook book = new GuideBook();
        book.fact(0, 0, 1);
        for (int n = 0; n < 100; n++) {
            DUE.is("letter " + n, book.letter(n % 20, 0, 2), n);
        }
        DUE.is("a 101st letter", book.letter(0, 0, 2), -1);
        DUE.is("all of one mind", book.quarrel(0), 0);
        DUE.is("20 readers against the fact", book.believed(0), 2);
        book.check(0, 2);
        DUE.is("proven ones stay there", book.letter(0, 0, 2), -1);
        DUE.is("count(2)", book.count(2), 100);
        DUE.is("count(3)", book.count(3), 0);
        DUE.is("5 right", book.weight(7), 1000 * 6 / 7);
        DUE.is("the last one's proof", book.proof(99), 1);
    }

    private static void weights() {
        GuideBook book = new GuideBook();
        book.fact(0, 0, 1);
        DUE.is("weight(-1)", book.weight(-1), -1);
        DUE.is("weight(20)", book.weight(20), -1);
        DUE.is("nothing proven", book.weight(19), 500);
        book.letter(19, 0, 5);
        DUE.is("an open one counts nothing", book.weight(19), 500);
        book.check(0, 6);
        DUE.is("one wrong", book.weight(19), 333);
        book.letter(19, 0, 6);
        book.check(0, 6);
        DUE.is("one right, one wrong", book.weight(19), 500);
        book.check(0, 7);
        DUE.is("proven once only", book.weight(19), 500);
        DUE.is("another reader", book.weight(0), 500);
    }

    private static void ownValueStands() {
        GuideBook book = new GuideBook();
        book.fact(0, 0, 1);
        book.fact(0, 0, 2);
        DUE.is("believed(-1)", book.believed(-1), -1);
        DUE.is("believed(2)", book.believed(2), -1);
        DUE.is("without letters", book.believed(0), 1);
        book.check(1, 3);
        book.years(1);
        DUE.is("no chance at all", book.chance(0), 0);
        DUE.is("no letter says another", book.believed(0), 1);
        book.letter(0, 0, 1);
        DUE.is("a letter says the same", book.believed(0), 1);
        book.letter(1, 1, 9);
        DUE.is("a letter on another fact", book.believed(0), 1);
        DUE.is("the other fact", book.believed(1), 9);
        book.check(1, 4);
        DUE.is("a proven letter says nothing", book.believed(1), 4);
    }

    private static void greatestSum() {
        GuideBook book = oldFact();
        book.letter(0, 0, 60);
        book.letter(1, 0, 70);
        book.letter(2, 0, 70);
        DUE.is("two against one", book.believed(0), 70);
        book.letter(3, 0, 60);
        book.letter(4, 0, 60);
        DUE.is("three against two", book.believed(0), 60);
        book.letter(5, 0, 50);
        book.letter(6, 0, 50);
        book.letter(7, 0, 50);
        DUE.is("the fact's own value has letters, too", book.believed(0), 50);
    }

    private static void eachReaderOnce() {
        GuideBook book = oldFact();
        book.letter(0, 0, 70);
        book.letter(0, 0, 70);
        book.letter(0, 0, 70);
        book.letter(0, 0, 60);
        book.letter(1, 0, 60);
        DUE.is("a reader counts once for a value, and for several values", book.believed(0), 60);
    }

    private static void equalSums() {
        GuideBook book = oldFact();
        book.letter(0, 0, 70);
        book.letter(1, 0, 60);
        book.letter(2, 0, 80);
        DUE.is("the least of equal ones", book.believed(0), 60);
        book.letter(3, 0, 50);
        DUE.is("the fact's own is ahead by its chance", book.believed(0), 50);

        GuideBook sure = new GuideBook();
        sure.fact(0, 0, 50);
        sure.letter(0, 0, 40);
        sure.letter(1, 0, 40);
        DUE.is("1000 against 1000: the fact's own", sure.believed(0), 50);
        sure.letter(2, 0, 40);
        DUE.is("1000 against 1500", sure.believed(0), 40);
    }

    private static void chanceIsCounted() {
        GuideBook book = new GuideBook();
        book.fact(0, 0, 50);
        book.letter(0, 0, 40);
        DUE.is("chance 1000 against 500", book.believed(0), 50);
        book.years(1);
        DUE.is("chance 500 against 500", book.believed(0), 50);
        book.years(1);
        DUE.is("chance 250 against 500", book.believed(0), 40);
        book.letter(1, 0, 50);
        DUE.is("chance 250 and 500 against 500", book.believed(0), 50);
    }

    private static void quarrels() {
        GuideBook book = new GuideBook();
        book.fact(0, 0, 50);
        book.fact(0, 0, 50);
        DUE.is("quarrel(-1)", book.quarrel(-1), -1);
        DUE.is("quarrel(2)", book.quarrel(2), -1);
        DUE.is("no letters", book.quarrel(0), 0);
        book.letter(0, 0, 60);
        DUE.is("against the fact alone", book.quarrel(0), 0);
        book.letter(1, 0, 60);
        book.letter(1, 1, 70);
        DUE.is("of one mind", book.quarrel(0), 0);
        book.letter(1, 0, 0);
        DUE.is("different values of one reader", book.quarrel(0), 1);
        DUE.is("the other fact", book.quarrel(1), 0);
        book.letter(2, 1, 71);
        DUE.is("the other fact's first and last letters", book.quarrel(1), 1);
        book.check(0, 60);
        DUE.is("proven ones do not quarrel", book.quarrel(0), 0);
        book.letter(1, 0, 0);
        DUE.is("nor an open with a proven one", book.quarrel(0), 0);
    }

    private static void proofs() {
        GuideBook book = new GuideBook();
        book.fact(0, 0, 50);
        book.fact(0, 0, 50);
        book.letter(0, 0, 60);
        book.letter(0, 1, 60);
        book.letter(0, 0, 50);
        DUE.is("proof(-1)", book.proof(-1), -1);
        DUE.is("proof(3)", book.proof(3), -1);
        DUE.is("open", book.proof(0), 0);
        book.check(0, 10000);
        DUE.is("no CHECK with a wrong value", book.proof(0), 0);
        book.check(0, 60);
        DUE.is("right", book.proof(0), 1);
        DUE.is("on another fact", book.proof(1), 0);
        DUE.is("wrong", book.proof(2), 2);
        DUE.is("count(3)", book.count(3), 1);
        book.check(0, 50);
        DUE.is("proven at the next CHECK alone", book.proof(0), 1);
        DUE.is("proven at the next CHECK alone", book.proof(2), 2);
    }

    /** Fact 0 of value 50 and of a small chance. */
    private static GuideBook oldFact() {
        GuideBook book = new GuideBook();
        book.fact(0, 0, 50);
        book.years(5);
        return book;
    }
}
