/** The edges of promises 10 to 14 and of their terms, a sentence of the document each. */
public final class LetterEdgesTest {
    private static final Due DUE = new Due();

    public static void main(String[] args) {
        hundredLetters();
        readers();
        factsOfLetters();
        valuesOfLetters();
        openUntilTheNextCheck();
        rightElseWrong();
        weightIsCut();
        noSuchReader();
        noOpenLetterSaysAnother();
        valuesSaidByOpenLetters();
        eachReaderOnce();
        chanceBesides();
        chanceIsCut();
        weightsOfThen();
        equalOnesTheOwn();
        equalOnesTheLeast();
        hundredValues();
        believedOfNoFact();
        quarrels();
        quarrelOfNoFact();
        proofs();
        proofOfNoLetter();
        DUE.end();
    }

    private static void hundredLetters() {
        DUE.sentence("LETTERS, 100 at most .. A LETTER: its number; NONE: .. 100 are there");
        GuideBook book = oneFact(5);
        for (int n = 0; n < 100; n++) {
            DUE.is("letter " + n, book.letter(n % 20, 0, 6), n);
        }
        DUE.is("a 101st", book.letter(0, 0, 6), -1);
        DUE.is("LETTERS", book.count(2), 100);
        DUE.is("proof(99)", book.proof(99), 0);
        DUE.is("proof(100)", book.proof(100), -1);
        book.check(0, 6);
        DUE.is("those that are not open are there, too", book.letter(0, 0, 6), -1);
        DUE.is("proof(99)", book.proof(99), 1);
        DUE.is("open ones", book.count(3), 0);
    }

    private static void readers() {
        DUE.sentence("a READER (0 to 19)");
        GuideBook book = oneFact(5);
        DUE.is("letter(-1, 0, 6)", book.letter(-1, 0, 6), -1);
        DUE.is("letter(20, 0, 6)", book.letter(20, 0, 6), -1);
        DUE.is("letter(MIN, 0, 6)", book.letter(Integer.MIN_VALUE, 0, 6), -1);
        DUE.is("letter(MAX, 0, 6)", book.letter(Integer.MAX_VALUE, 0, 6), -1);
        DUE.is("LETTERS", book.count(2), 0);
        for (int reader = 0; reader < 20; reader++) {
            DUE.is("letter(" + reader + ", 0, 6)", book.letter(reader, 0, 6), reader);
        }
        book.check(0, 6);
        for (int reader = 0; reader < 20; reader++) {
            DUE.is("weight(" + reader + ")", book.weight(reader), 666);
        }
    }

    private static void factsOfLetters() {
        DUE.sentence("A LETTER .. NONE: no such .. FACT");
        GuideBook empty = new GuideBook();
        DUE.is("letter(0, 0, 6) without facts", empty.letter(0, 0, 6), -1);
        GuideBook book = oneFact(5);
        DUE.is("letter(0, 1, 6)", book.letter(0, 1, 6), -1);
        DUE.is("letter(0, -1, 6)", book.letter(0, -1, 6), -1);
        DUE.is("letter(0, MIN, 6)", book.letter(0, Integer.MIN_VALUE, 6), -1);
        DUE.is("letter(0, MAX, 6)", book.letter(0, Integer.MAX_VALUE, 6), -1);
        DUE.is("LETTERS", book.count(2), 0);
        DUE.is("letter(0, 0, 6)", book.letter(0, 0, 6), 0);
        GuideBook full = Books.fullOfFacts();
        DUE.is("letter(0, 60, 6)", full.letter(0, 60, 6), -1);
        DUE.is("letter(0, 59, 6)", full.letter(0, 59, 6), 0);
    }

    private static void valuesOfLetters() {
        DUE.sentence("A LETTER .. NONE: no such .. value");
        GuideBook book = oneFact(5);
        DUE.is("letter(0, 0, -1)", book.letter(0, 0, -1), -1);
        DUE.is("letter(0, 0, 10000)", book.letter(0, 0, 10000), -1);
        DUE.is("letter(0, 0, MIN)", book.letter(0, 0, Integer.MIN_VALUE), -1);
        DUE.is("letter(0, 0, MAX)", book.letter(0, 0, Integer.MAX_VALUE), -1);
        DUE.is("LETTERS", book.count(2), 0);
        DUE.is("letter(0, 0, 0)", book.letter(0, 0, 0), 0);
        DUE.is("letter(1, 0, 9999)", book.letter(1, 0, 9999), 1);
        book.check(0, 9999);
        DUE.is("0 was wrong", book.proof(0), 2);
        DUE.is("9999 was right", book.proof(1), 1);
    }

    private static void openUntilTheNextCheck() {
        DUE.sentence("It is open until the FACT is next CHECKED");
        GuideBook book = oneFact(5);
        book.fact(0, 0, 5);
        book.letter(0, 0, 6);
        Books.pass(book, 99);
        book.edition();
        book.check(1, 6);
        DUE.is("years, an edition, another fact's CHECK", book.proof(0), 0);
        DUE.is("open ones", book.count(3), 1);
        book.check(0, 5);
        DUE.is("a CHECK without a change", book.proof(0), 2);
        DUE.is("open ones", book.count(3), 0);
        book.check(0, 6);
        DUE.is("the CHECK behind that", book.proof(0), 2);
        DUE.is("weight", book.weight(0), 333);
        book.letter(0, 0, 6);
        DUE.is("a LETTER behind the CHECK", book.proof(1), 0);
    }

    private static void rightElseWrong() {
        DUE.sentence("it was right, if it says that value, else wrong");
        GuideBook book = oneFact(5);
        book.letter(0, 0, 8);
        book.letter(1, 0, 9);
        book.letter(2, 0, 10);
        book.letter(3, 0, 5);
        book.check(0, 9);
        int[] due = {2, 1, 2, 2};
        for (int letter = 0; letter < due.length; letter++) {
            DUE.is("proof(" + letter + ")", book.proof(letter), due[letter]);
        }
        book.letter(4, 0, 9);
        book.check(0, 9);
        DUE.is("right without a change", book.proof(4), 1);
    }

    private static void weightIsCut() {
        DUE.sentence("in thousandths, cut: 1000 * (right + 1) / (right + wrong + 2)");
        GuideBook right = oneFact(6);
        GuideBook wrong = oneFact(6);
        for (int n = 0; n < 100; n++) {
            DUE.is("right: " + n, right.weight(19), 1000 * (n + 1) / (n + 2));
            right.letter(19, 0, 6);
            right.check(0, 6);
            DUE.is("wrong: " + n, wrong.weight(19), 1000 / (n + 2));
            wrong.letter(19, 0, 5);
            wrong.check(0, 6);
        }
        DUE.is("100 right", right.weight(19), 990);
        DUE.is("100 wrong", wrong.weight(19), 9);
        DUE.is("another reader's", right.weight(18), 500);
        GuideBook both = oneFact(6);
        both.letter(0, 0, 6);
        both.letter(0, 0, 6);
        both.letter(0, 0, 5);
        DUE.is("none known yet", both.weight(0), 500);
        both.check(0, 6);
        DUE.is("2 right, 1 wrong", both.weight(0), 600);
    }

    private static void noSuchReader() {
        DUE.sentence("A READER's WEIGHT; NONE: none such.");
        GuideBook book = new GuideBook();
        DUE.is("weight(0)", book.weight(0), 500);
        DUE.is("weight(19)", book.weight(19), 500);
        DUE.is("weight(-1)", book.weight(-1), -1);
        DUE.is("weight(20)", book.weight(20), -1);
        DUE.is("weight(MIN)", book.weight(Integer.MIN_VALUE), -1);
        DUE.is("weight(MAX)", book.weight(Integer.MAX_VALUE), -1);
    }

    private static void noOpenLetterSaysAnother() {
        DUE.sentence("its value if no open LETTER says another one");
        GuideBook book = oneFact(5);
        book.fact(0, 0, 7);
        Books.pass(book, 99);
        DUE.is("no letter at all, no chance at all", book.believed(0), 5);
        book.letter(0, 0, 5);
        DUE.is("a letter says it", book.believed(0), 5);
        book.letter(0, 1, 8);
        DUE.is("a letter on another fact", book.believed(0), 5);
        book.letter(1, 0, 6);
        book.letter(2, 0, 6);
        DUE.is("open letters say another one", book.believed(0), 6);
        book.check(0, 4);
        DUE.is("no open letter", book.believed(0), 4);
        DUE.is("the other fact's is open", book.believed(1), 8);
    }

    private static void valuesSaidByOpenLetters() {
        DUE.sentence("each value that is said by open LETTERS has the sum of the WEIGHTS");
        GuideBook book = oneFact(5);
        Books.pass(book, 40);
        book.letter(0, 0, 0);
        DUE.is("0", book.believed(0), 0);
        book.letter(1, 0, 9999);
        book.letter(2, 0, 9999);
        DUE.is("9999 of two", book.believed(0), 9999);
        book.letter(3, 0, 5);
        book.letter(4, 0, 5);
        book.letter(5, 0, 5);
        DUE.is("the fact's own value of three", book.believed(0), 5);
        for (int reader = 6; reader < 20; reader++) {
            book.letter(reader, 0, 7);
        }
        DUE.is("7 of fourteen", book.believed(0), 7);
    }

    private static void eachReaderOnce() {
        DUE.sentence("each READER counts once for a value");
        GuideBook book = oneFact(5);
        Books.pass(book, 40);
        for (int n = 0; n < 50; n++) {
            book.letter(19, 0, 8);
        }
        book.letter(0, 0, 9);
        book.letter(1, 0, 9);
        DUE.is("fifty of one against one each of two", book.believed(0), 9);
        book.letter(0, 0, 8);
        DUE.is("a reader counts for two values: equal", book.believed(0), 8);
        book.letter(19, 0, 9);
        DUE.is("three for 9", book.believed(0), 9);
    }

    private static void chanceBesides() {
        DUE.sentence("the FACT's own value CHANCE / 1000 besides");
        GuideBook book = oneFact(5);
        book.letter(0, 0, 9);
        book.letter(1, 0, 9);
        book.letter(2, 0, 9);
        DUE.is("1000 against 1500", book.believed(0), 9);
        book.letter(3, 0, 5);
        DUE.is("1500 against 1500", book.believed(0), 5);
        book.years(1);
        DUE.is("1000 against 1500", book.believed(0), 9);
        book.letter(4, 0, 5);
        DUE.is("1500 against 1500", book.believed(0), 5);
        book.years(1);
        DUE.is("1250 against 1500", book.believed(0), 9);
    }

    private static void chanceIsCut() {
        DUE.sentence("CHANCE / 1000");
        GuideBook book = oneFact(0);
        book.fact(0, 0, 5);
        Books.pass(book, 97);
        book.check(1, 5);
        for (int change = 1; change <= 56; change++) {
            book.check(0, change);
        }
        // 194 years, 56 changes: 139 of 196 still so.
        DUE.is("the rate", book.rate(0), 709183);
        book.check(0, 1);
        DUE.is("the rate", book.rate(0), 704081);
        book.years(2);
        DUE.is("the chance", book.chance(1), 495730);
        book.letter(0, 1, 9);
        DUE.is("495 against 500", book.believed(1), 9);
        GuideBook near = oneFact(0);
        near.fact(0, 0, 5);
        Books.pass(near, 97);
        for (int change = 1; change <= 28; change++) {
            near.check(0, change);
        }
        near.fact(0, 0, 5);
        near.years(2);
        // 97 years, 28 changes: 707070 millionths, twice.
        DUE.is("the chance", near.chance(2), 499947);
        near.letter(0, 2, 9);
        DUE.is("499 against 500", near.believed(2), 9);
    }

    private static void weightsOfThen() {
        DUE.sentence("the sum of the WEIGHTS of the READERS who say it");
        GuideBook book = oneFact(5);
        book.fact(1, 0, 5);
        book.letter(0, 0, 8);
        book.letter(1, 0, 9);
        Books.pass(book, 40);
        DUE.is("500 against 500", book.believed(0), 8);
        book.letter(1, 1, 5);
        book.check(1, 5);
        DUE.is("500 against 666", book.believed(0), 9);
        book.letter(1, 1, 6);
        book.letter(1, 1, 6);
        book.check(1, 5);
        DUE.is("500 against 400", book.believed(0), 8);
    }

    private static void equalOnesTheOwn() {
        DUE.sentence("the greatest sum; of equal ones the FACT's own");
        GuideBook book = oneFact(5);
        book.letter(0, 0, 4);
        book.letter(1, 0, 4);
        book.letter(0, 0, 6);
        book.letter(1, 0, 6);
        DUE.is("1000 against 1000, a less and a greater one", book.believed(0), 5);
        GuideBook behind = oneFact(5);
        behind.years(1);
        behind.letter(0, 0, 4);
        DUE.is("500 against 500", behind.believed(0), 5);
        GuideBook without = oneFact(5);
        Books.pass(without, 40);
        DUE.is("no chance", without.chance(0), 0);
        without.letter(0, 0, 4);
        without.letter(1, 0, 5);
        DUE.is("0 and 500 against 500", without.believed(0), 5);
    }

    private static void equalOnesTheLeast() {
        DUE.sentence("of equal ones the FACT's own, then the least");
        int[][] orders = {{7, 8, 9}, {7, 9, 8}, {8, 7, 9}, {8, 9, 7}, {9, 7, 8}, {9, 8, 7}};
        for (int[] order : orders) {
            GuideBook book = oneFact(5);
            Books.pass(book, 40);
            for (int reader = 0; reader < 3; reader++) {
                book.letter(reader, 0, order[reader]);
            }
            DUE.is("of 7, 8 and 9", book.believed(0), 7);
            book.letter(3, 0, 9);
            DUE.is("9 has more", book.believed(0), 9);
            book.letter(3, 0, 8);
            DUE.is("of 8 and 9", book.believed(0), 8);
        }
    }

    private static void hundredValues() {
        DUE.sentence("each value that is said by open LETTERS (100 of them)");
        GuideBook book = oneFact(5);
        Books.pass(book, 40);
        for (int n = 0; n < 99; n++) {
            book.letter(n % 20, 0, 9999 - n);
        }
        DUE.is("the least of 99 equal ones", book.believed(0), 9901);
        book.letter(19, 0, 9999);
        DUE.is("the 100th letter counts", book.believed(0), 9999);
        DUE.is("quarrel", book.quarrel(0), 1);
    }

    private static void believedOfNoFact() {
        DUE.sentence("What is BELIEVED of a FACT; NONE: none such.");
        GuideBook empty = new GuideBook();
        DUE.is("believed(0) without facts", empty.believed(0), -1);
        GuideBook book = oneFact(0);
        DUE.is("believed(0)", book.believed(0), 0);
        DUE.is("believed(1)", book.believed(1), -1);
        DUE.is("believed(-1)", book.believed(-1), -1);
        DUE.is("believed(MIN)", book.believed(Integer.MIN_VALUE), -1);
        DUE.is("believed(MAX)", book.believed(Integer.MAX_VALUE), -1);
        GuideBook full = Books.fullOfFacts();
        DUE.is("believed(59)", full.believed(59), 0);
        DUE.is("believed(60)", full.believed(60), -1);
    }

    private static void quarrels() {
        DUE.sentence("QUARREL: two open LETTERS say different values.");
        GuideBook book = oneFact(5);
        book.fact(0, 0, 5);
        DUE.is("no letter", book.quarrel(0), 0);
        book.letter(0, 0, 0);
        DUE.is("one letter, not as the fact", book.quarrel(0), 0);
        book.letter(1, 0, 0);
        DUE.is("two that say the same", book.quarrel(0), 0);
        book.letter(2, 1, 9999);
        DUE.is("different values on different facts", book.quarrel(0), 0);
        DUE.is("one letter on the other", book.quarrel(1), 0);
        book.letter(0, 0, 1);
        DUE.is("different values of one reader", book.quarrel(0), 1);
        book.letter(0, 0, 0);
        DUE.is("still", book.quarrel(0), 1);
        book.check(0, 0);
        DUE.is("none is open", book.quarrel(0), 0);
        book.letter(0, 0, 7);
        DUE.is("one is open", book.quarrel(0), 0);
        book.letter(0, 0, 0);
        DUE.is("two are open", book.quarrel(0), 1);
        GuideBook hundred = oneFact(5);
        for (int n = 0; n < 100; n++) {
            hundred.letter(n % 20, 0, n == 0 ? 6 : 7);
        }
        DUE.is("the first of 100 says another", hundred.quarrel(0), 1);
        hundred = oneFact(5);
        for (int n = 0; n < 100; n++) {
            hundred.letter(n % 20, 0, n == 99 ? 6 : 7);
        }
        DUE.is("the last of 100 says another", hundred.quarrel(0), 1);
    }

    private static void quarrelOfNoFact() {
        DUE.sentence("Whether there is a QUARREL about a FACT: 1 or 0; NONE: none such.");
        GuideBook empty = new GuideBook();
        DUE.is("quarrel(0) without facts", empty.quarrel(0), -1);
        GuideBook book = oneFact(0);
        DUE.is("quarrel(0)", book.quarrel(0), 0);
        DUE.is("quarrel(1)", book.quarrel(1), -1);
        DUE.is("quarrel(-1)", book.quarrel(-1), -1);
        DUE.is("quarrel(MIN)", book.quarrel(Integer.MIN_VALUE), -1);
        DUE.is("quarrel(MAX)", book.quarrel(Integer.MAX_VALUE), -1);
        GuideBook full = Books.fullOfFacts();
        DUE.is("quarrel(59)", full.quarrel(59), 0);
        DUE.is("quarrel(60)", full.quarrel(60), -1);
    }

    private static void proofs() {
        DUE.sentence("Of a LETTER: 0 open, 1 right, 2 wrong");
        GuideBook book = oneFact(5);
        book.letter(0, 0, 5);
        book.letter(0, 0, 6);
        DUE.is("open", book.proof(0), 0);
        DUE.is("open", book.proof(1), 0);
        book.check(0, 5);
        DUE.is("right", book.proof(0), 1);
        DUE.is("wrong", book.proof(1), 2);
    }

    private static void proofOfNoLetter() {
        DUE.sentence("Of a LETTER .. NONE: none such.");
        GuideBook book = oneFact(5);
        DUE.is("proof(0) without letters", book.proof(0), -1);
        book.letter(0, 0, 5);
        DUE.is("proof(0)", book.proof(0), 0);
        DUE.is("proof(1)", book.proof(1), -1);
        DUE.is("proof(-1)", book.proof(-1), -1);
        DUE.is("proof(MIN)", book.proof(Integer.MIN_VALUE), -1);
        DUE.is("proof(MAX)", book.proof(Integer.MAX_VALUE), -1);
    }

    private static GuideBook oneFact(int value) {
        GuideBook book = new GuideBook();
        book.fact(0, 0, value);
        return book;
    }
}
