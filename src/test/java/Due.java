import java.util.NoSuchElementException;
import java.util.function.IntSupplier;

/** Compares answers with those that are due, and ends a test with exit code 1 if one is wrong. */
final class Due {
    private int told;
    private int wrong;
    private String sentence = "";

    /**
     * The document's words that the answers from here on are held against; " .. " stands for words
     * left out, and a case may stand in brackets behind them.
     */
    void sentence(String words) {
        sentence = "\"" + words + "\": ";
    }

    void is(String call, long got, long want) {
        told++;
        if (got != want) {
            wrong++;
            System.out.println(sentence + call + " answered " + got + ", due is " + want);
        }
    }

    void is(String call, boolean got, boolean want) {
        is(call, got ? 1 : 0, want ? 1 : 0);
    }

    void noSuchElement(String call, IntSupplier answer) {
        told++;
        try {
            int got = answer.getAsInt();
            wrong++;
            System.out.println(sentence + call + " answered " + got
                + ", due is NoSuchElementException");
        } catch (NoSuchElementException due) {
            return;
        }
    }

    void end() {
        System.out.println(told + " answers, " + wrong + " not as due");
        if (wrong != 0) {
            System.exit(1);
        }
    }
}
