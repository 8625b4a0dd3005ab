/** The edges of promises 22 to 24 and of their terms, a sentence of the document each. */
public final class EditionEdgesTest {
    private static final Due DUE = new Due();

    public static void main(String[] args) {
        tenEditions();
        noFact();
        sixtyFacts();
        believedThen();
        starsThen();
        theyStand();
        noSuchEdition();
        notInIt();
        otherWhats();
        firstCheckBehind();
        checkAheadOfIt();
        notAsPrinted();
        notCheckedSince();
        factsNotInIt();
        severalEditions();
        byKind();
        noSuchErrors();
        DUE.end();
    }

    private static void tenEditions() {
        DUE.sentence("EDITIONS, 10 at most .. its number; NONE: 10 are");
        GuideBook book = new GuideBook();
        book.fact(0, 0, 0);
        for (int n = 0; n < 10; n++) {
            book.check(0, n);
            DUE.is("edition " + n, book.edition(), n);
        }
        book.check(0, 77);
        DUE.is("an 11th", book.edition(), -1);
        DUE.is("an 11th, again", book.edition(), -1);
        DUE.is("EDITIONS", book.count(4), 10);
        for (int n = 0; n < 10; n++) {
            DUE.is("printed(" + n + ", 0, 0)", book.printed(n, 0, 0), n);
        }
        DUE.is("printed(10, 0, 0)", book.printed(10, 0, 0), -1);
        DUE.is("errors(9, -1)", book.errors(9, -1), 1);
        DUE.is("errors(10, -1)", book.errors(10, -1), -1);
    }

    private static void noFact() {
        DUE.sentence("for each FACT that is there (none)");
        GuideBook book = new GuideBook();
        DUE.is("edition()", book.edition(), 0);
        DUE.is("printed(0, 0, 0)", book.printed(0, 0, 0), -1);
        for (int place = 0; place < 10; place++) {
            DUE.is("printed(0, 1, " + place + ")", book.printed(0, 1, place), 0);
        }
        for (int kind = -1; kind < 6; kind++) {
            DUE.is("errors(0, " + kind + ")", book.errors(0, kind), 0);
        }
    }

    private static void sixtyFacts() {
        DUE.sentence("for each FACT that is there (60)");
        GuideBook book = new GuideBook();
        for (int fact = 0; fact < 60; fact++) {
            book.fact(fact % 6, fact % 10, fact == 59 ? 9999 : fact);
        }
        book.edition();
        for (int fact = 0; fact < 60; fact++) {
            int due = fact == 59 ? 9999 : fact;
            DUE.is("printed(0, 0, " + fact + ")", book.printed(0, 0, fact), due);
            book.check(fact, 5000);
        }
        DUE.is("printed(0, 0, 60)", book.printed(0, 0, 60), -1);
        DUE.is("errors(0, -1)", book.errors(0, -1), 60);
        DUE.is("errors(0, 5)", book.errors(0, 5), 10);
    }

    private static void believedThen() {
        DUE.sentence("printed NOW: for each FACT that is there what is BELIEVED then");
        GuideBook book = new GuideBook();
        book.fact(0, 0, 50);
        book.letter(0, 0, 60);
        book.edition();
        book.years(1);
        book.edition();
        book.years(1);
        book.edition();
        DUE.is("1000 against 500", book.printed(0, 0, 0), 50);
        DUE.is("500 against 500", book.printed(1, 0, 0), 50);
        DUE.is("250 against 500", book.printed(2, 0, 0), 60);
        DUE.is("the fact's value stays", book.look(0, 2), 50);
        DUE.is("the letter stays open", book.proof(0), 0);
    }

    private static void starsThen() {
        DUE.sentence("for each PLACE its STARS");
        GuideBook book = new GuideBook();
        Signs.read(book, "star 5 when paid; star 3 when facts; star 1 when marks;");
        book.paid(0, true);
        book.fact(0, 8, 0);
        book.mark(9, 4, 0);
        book.edition();
        int[] due = {5, 0, 0, 0, 0, 0, 0, 0, 3, 1};
        for (int place = 0; place < 10; place++) {
            DUE.is("printed(0, 1, " + place + ")", book.printed(0, 1, place), due[place]);
        }
    }

    private static void theyStand() {
        DUE.sentence("They stand.");
        GuideBook book = new GuideBook();
        book.fact(0, 0, 50);
        Signs.read(book, "star 5 when paid; star 2 when 1;");
        book.paid(0, true);
        book.edition();
        book.letter(0, 0, 60);
        book.years(20);
        book.paid(0, false);
        DUE.is("the value, with a letter", book.printed(0, 0, 0), 50);
        DUE.is("the stars, not paid", book.printed(0, 1, 0), 5);
        book.check(0, 70);
        book.text();
        DUE.is("the value, checked", book.printed(0, 0, 0), 50);
        DUE.is("the stars, without a text", book.printed(0, 1, 0), 5);
        DUE.is("the stars, without a text", book.printed(0, 1, 9), 2);
        book.edition();
        DUE.is("with another edition", book.printed(0, 0, 0), 50);
        DUE.is("the other edition", book.printed(1, 0, 0), 70);
        DUE.is("the other edition's stars", book.printed(1, 1, 0), 0);
    }

    private static void noSuchEdition() {
        DUE.sentence("What an EDITION printed .. NONE: no such EDITION");
        GuideBook book = new GuideBook();
        book.fact(0, 0, 7);
        DUE.is("printed(0, 0, 0) without editions", book.printed(0, 0, 0), -1);
        DUE.is("printed(0, 1, 0) without editions", book.printed(0, 1, 0), -1);
        book.edition();
        DUE.is("printed(0, 0, 0)", book.printed(0, 0, 0), 7);
        int[] none = {-1, 1, 10, Integer.MIN_VALUE, Integer.MAX_VALUE};
        for (int edition : none) {
            DUE.is("printed(" + edition + ", 0, 0)", book.printed(edition, 0, 0), -1);
            DUE.is("printed(" + edition + ", 1, 0)", book.printed(edition, 1, 0), -1);
        }
    }

    private static void notInIt() {
        DUE.sentence("What an EDITION printed .. NONE: .. it is not in it");
        GuideBook book = new GuideBook();
        book.fact(0, 0, 7);
        book.edition();
        book.fact(0, 0, 8);
        DUE.is("a FACT that came behind it", book.printed(0, 0, 1), -1);
        DUE.is("the one ahead of it", book.printed(0, 0, 0), 7);
        DUE.is("PLACE 9", book.printed(0, 1, 9), 0);
        int[] none = {-1, 10, 60, Integer.MIN_VALUE, Integer.MAX_VALUE};
        for (int k : none) {
            DUE.is("printed(0, 0, " + k + ")", book.printed(0, 0, k), -1);
            DUE.is("printed(0, 1, " + k + ")", book.printed(0, 1, k), -1);
        }
        book.edition();
        DUE.is("in the next one", book.printed(1, 0, 1), 8);
        DUE.is("not in the next one", book.printed(1, 0, 2), -1);
    }

    private static void otherWhats() {
        DUE.sentence("of a FACT (what 0), the STARS of a PLACE (1)");
        GuideBook book = new GuideBook();
        book.fact(0, 0, 7);
        Signs.read(book, "star 3 when 1;");
        book.edition();
        DUE.is("what 0", book.printed(0, 0, 0), 7);
        DUE.is("what 1", book.printed(0, 1, 0), 3);
        int[] none = {-1, 2, Integer.MIN_VALUE, Integer.MAX_VALUE};
        for (int what : none) {
            DUE.is("printed(0, " + what + ", 0)", book.printed(0, what, 0), -1);
        }
    }

    private static void firstCheckBehind() {
        DUE.sentence("those whose value, at the first CHECK behind it, was not as printed");
        GuideBook book = new GuideBook();
        book.fact(0, 0, 50);
        book.fact(0, 0, 60);
        book.edition();
        book.check(0, 50);
        DUE.is("as printed", book.errors(0, -1), 0);
        book.check(0, 51);
        DUE.is("the second CHECK does not count", book.errors(0, -1), 0);
        book.check(1, 61);
        DUE.is("not as printed", book.errors(0, -1), 1);
        book.check(1, 60);
        DUE.is("the second CHECK does not mend it", book.errors(0, -1), 1);
        book.check(1, 62);
        DUE.is("nor does a third add to it", book.errors(0, -1), 1);
    }

    private static void checkAheadOfIt() {
        DUE.sentence("at the first CHECK behind it");
        GuideBook book = new GuideBook();
        book.fact(0, 0, 50);
        book.check(0, 51);
        book.edition();
        DUE.is("a CHECK ahead of it", book.errors(0, -1), 0);
        book.check(0, 52);
        DUE.is("a CHECK behind it, in the same year", book.errors(0, -1), 1);
        book.edition();
        DUE.is("that one is ahead of the next", book.errors(1, -1), 0);
        book.check(0, 52);
        DUE.is("as the next one printed", book.errors(1, -1), 0);
    }

    private static void notAsPrinted() {
        DUE.sentence("was not as printed");
        GuideBook book = new GuideBook();
        book.fact(3, 0, 50);
        book.fact(3, 0, 50);
        Books.pass(book, 40);
        book.letter(0, 0, 60);
        book.letter(0, 1, 60);
        book.edition();
        DUE.is("printed as believed", book.printed(0, 0, 0), 60);
        DUE.is("a change, but as printed", book.check(0, 60), 1);
        DUE.is("no error", book.errors(0, 3), 0);
        DUE.is("no change, but not as printed", book.check(1, 50), 0);
        DUE.is("an error", book.errors(0, 3), 1);
        GuideBook near = new GuideBook();
        near.fact(0, 0, 50);
        near.fact(0, 0, 50);
        near.edition();
        near.check(0, 49);
        near.check(1, 51);
        DUE.is("one less, one more", near.errors(0, 0), 2);
    }

    private static void notCheckedSince() {
        DUE.sentence("(Not CHECKED since: none.)");
        GuideBook book = new GuideBook();
        book.fact(0, 0, 50);
        book.fact(0, 0, 50);
        book.edition();
        Books.pass(book, 99);
        book.letter(0, 0, 60);
        DUE.is("years and a letter", book.errors(0, -1), 0);
        DUE.is("another is believed now", book.believed(0), 60);
        book.check(0, 10000);
        book.check(2, 60);
        DUE.is("refused CHECKS", book.errors(0, -1), 0);
        book.check(1, 51);
        DUE.is("the other one's CHECK", book.errors(0, -1), 1);
    }

    private static void factsNotInIt() {
        DUE.sentence("ERRORS of an EDITION: of the FACTS in it");
        GuideBook book = new GuideBook();
        book.fact(0, 0, 50);
        book.edition();
        book.fact(0, 0, 50);
        book.check(1, 51);
        DUE.is("a FACT that came behind it", book.errors(0, -1), 0);
        book.edition();
        book.check(1, 52);
        DUE.is("still", book.errors(0, -1), 0);
        DUE.is("in the next one", book.errors(1, -1), 1);
    }

    private static void severalEditions() {
        DUE.sentence("ERRORS of an EDITION");
        GuideBook book = new GuideBook();
        book.fact(0, 0, 50);
        for (int n = 0; n < 10; n++) {
            book.edition();
        }
        book.check(0, 51);
        book.check(0, 50);
        for (int n = 0; n < 10; n++) {
            DUE.is("errors(" + n + ", -1)", book.errors(n, -1), 1);
        }
    }

    private static void byKind() {
        DUE.sentence("by kind .. (-1: of all)");
        GuideBook book = new GuideBook();
        for (int fact = 0; fact < 12; fact++) {
            book.fact(fact % 6, 0, 50);
        }
        book.edition();
        book.check(0, 51);
        book.check(5, 51);
        book.check(11, 51);
        int[] due = {1, 0, 0, 0, 0, 2};
        for (int kind = 0; kind < 6; kind++) {
            DUE.is("errors(0, " + kind + ")", book.errors(0, kind), due[kind]);
        }
        DUE.is("errors(0, -1)", book.errors(0, -1), 3);
    }

    private static void noSuchErrors() {
        DUE.sentence("ERRORS of an EDITION of a kind (-1: of all); NONE: none such.");
        GuideBook book = new GuideBook();
        DUE.is("errors(0, -1) without editions", book.errors(0, -1), -1);
        DUE.is("errors(-1, -1)", book.errors(-1, -1), -1);
        book.edition();
        DUE.is("errors(0, -1)", book.errors(0, -1), 0);
        int[] noKind = {-2, 6, Integer.MIN_VALUE, Integer.MAX_VALUE};
        for (int kind : noKind) {
            DUE.is("errors(0, " + kind + ")", book.errors(0, kind), -1);
        }
        int[] noEdition = {-1, 1, 10, Integer.MIN_VALUE, Integer.MAX_VALUE};
        for (int edition : noEdition) {
            DUE.is("errors(" + edition + ", 0)", book.errors(edition, 0), -1);
            DUE.is("errors(" + edition + ", -1)", book.errors(edition, -1), -1);
        }
    }
}
