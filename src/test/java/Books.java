/** Makes books that several tests begin with. */
final class Books {
    private Books() {
    }

    /** A new book in which so many years have passed (0 to 99). */
    static GuideBook inYear(int year) {
        GuideBook book = new GuideBook();
        pass(book, year);
        return book;
    }

    static void pass(GuideBook book, int years) {
        for (int left = years; left > 0; left -= 20) {
            book.years(Math.min(20, left));
        }
    }

    /** 60 facts of value 0, of all kinds and places in turn. */
    static GuideBook fullOfFacts() {
        GuideBook book = new GuideBook();
        for (int fact = 0; fact < 60; fact++) {
            book.fact(fact % 6, fact % 10, 0);
        }
        return book;
    }

    /** 60 facts of value 0 and of one kind, all on place 0. */
    static GuideBook fullOfFacts(int kind) {
        GuideBook book = new GuideBook();
        for (int fact = 0; fact < 60; fact++) {
            book.fact(kind, 0, 0);
        }
        return book;
    }
}
