/** Feeds texts to a book. */
final class Signs {
    private Signs() {
    }

    /** Feeds the text, 24 signs a call; what the last call answered (0 without a call). */
    static int feed(GuideBook book, String text) {
        int there = 0;
        for (int at = 0; at < text.length(); at += 24) {
            there = book.feed(eight(text, at), eight(text, at + 8), eight(text, at + 16));
        }
        return there;
    }

    /** Feeds the text and has it read. */
    static int read(GuideBook book, String text) {
        feed(book, text);
        return book.text();
    }

    /** Eight signs from there on, zeros behind the text's end. */
    static long eight(String text, int from) {
        long packed = 0;
        for (int i = from; i < from + 8; i++) {
            packed = packed << 8 | (i < text.length() ? text.charAt(i) & 255 : 0);
        }
        return packed;
    }
}
