import java.util.NoSuchElementException;
import java.util.Random;
import java.util.function.IntSupplier;

/** Random runs of 512 calls, on ordinary and on wrong numbers, each answer beside the model's. */
public final class ModelTest {
    private static final int RUNS = 2000;
    private static final int MOST_CALLS = 512;
    private static final int[] EDGES = {
        Integer.MIN_VALUE, Integer.MIN_VALUE + 1, -1000, -2, -1, 0, 1, 2, 4, 5, 6, 9, 10, 16, 19, 20,
        21, 59, 60, 61, 99, 100, 101, 999, 1000, 9999, 10000, Integer.MAX_VALUE - 1,
        Integer.MAX_VALUE,
    };
    private static final String[] TOKENS = {
        "star", "when", "and", "marks", "mean", "least", "greatest", "facts", "paid", "(", ")", "<",
        "=", "+", "-", ";", "0", "1", "5", "6", "42", "9999", "12345", "stars", "greatestx", "~",
        "A", "0001", "x",
    };

    private final Random random;
    private final Due due = new Due();
    private GuideBook book;
    private Model model;
    private String run;
    private int values;
    private int kinds;
    private int calls;

    private ModelTest(long seed) {
        random = new Random(seed);
    }

    public static void main(String[] args) {
        ModelTest test = new ModelTest(20261118);
        for (int n = 0; n < RUNS; n++) {
            test.oneRun(n);
        }
        test.due.end();
    }

    private void oneRun(int n) {
        run = "run " + n + ": ";
        book = new GuideBook();
        model = new Model();
        // Few values and kinds make letters agree, sums equal and rates low.
        values = random.nextBoolean() ? 4 : 10000;
        kinds = 1 + random.nextInt(6);
        int wrongOneIn = random.nextBoolean() ? 10 : 200;
        calls = 0;
        while (calls < MOST_CALLS) {
            if (random.nextInt(wrongOneIn) == 0) {
                oneCall(random.nextInt(27), edge(), edge(), edge());
            } else {
                ordinaryCall();
            }
        }
    }

    private int edge() {
        return random.nextInt(3) == 0 ? EDGES[random.nextInt(EDGES.length)] : random.nextInt(12);
    }

    private int below(int bound) {
        return random.nextInt(Math.max(1, bound));
    }

    private void ordinaryCall() {
        int fact = below(model.count(0));
        int place = below(10);
        int value = below(values);
        switch (below(32)) {
            case 0: oneCall(0, below(below(6) + 1), 0, 0); break;
            case 1: case 2: case 3: oneCall(1, below(kinds), below(1 + below(10)), value); break;
            case 4: case 5: oneCall(2, fact, 1 + below(9), below(below(2) == 0 ? 5 : 1000)); break;
            case 6: case 7: oneCall(3, fact, value, 0); break;
            case 8: oneCall(4, below(6), 0, 0); break;
            case 9: oneCall(5, fact, 0, 0); break;
            case 10: oneCall(6, place, 1 + below(below(2) == 0 ? 3 : 20), 0); break;
            case 11: oneCall(7, below(below(2) == 0 ? 10 : 100), below(2), 0); break;
            case 12: case 13: case 14: oneCall(8, below(below(2) == 0 ? 5 : 20), fact, value); break;
            case 15: oneCall(9, below(20), 0, 0); break;
            case 16: case 17: oneCall(10, fact, 0, 0); break;
            case 18: oneCall(11, fact, 0, 0); break;
            case 19: oneCall(12, below(100), 0, 0); break;
            case 20: case 21: oneCall(13, place, below(5), below(101)); break;
            case 22: oneCall(14, below(5), 0, 0); break;
            case 23: oneCall(15, place, below(2), 0); break;
            case 24: feedText(random.nextBoolean() ? goodText() : anyText()); break;
            case 25: oneCall(18, place, 0, 0); break;
            case 26: case 27: oneCall(19, fact, below(below(2) == 0 ? 15 : 100), 0); break;
            case 28: oneCall(below(8) == 0 ? 20 : 21, below(10), below(2), below(60)); break;
            case 29: oneCall(22, below(10), below(7) - 1, 0); break;
            case 30: oneCall(23, below(7), 0, 0); break;
            default: oneCall(24, fact, below(6), 0);
        }
    }

    private void feedText(String text) {
        for (int at = 0; at < text.length() && calls < MOST_CALLS; at += 24) {
            long a = Signs.eight(text, at);
            long b = Signs.eight(text, at + 8);
            long c = Signs.eight(text, at + 16);
            calls++;
            due.is(run + "feed", book.feed(a, b, c), model.feed(a, b, c));
        }
        if (below(8) != 0 && calls < MOST_CALLS) {
            calls++;
            due.is(run + "text of \"" + text + "\"", book.text(), model.text());
        }
        for (int place = below(5); place < 10 && calls < MOST_CALLS; place += 1 + below(5)) {
            calls++;
            due.is(run + "stars by \"" + text + "\"", book.stars(place), model.stars(place));
        }
    }

    private String anyText() {
        StringBuilder text = new StringBuilder(random.nextBoolean() ? goodText() : "");
        for (int n = below(6); n > 0; n--) {
            int at = below(text.length() + 1);
            if (below(3) == 0 && at < text.length()) {
                text.deleteCharAt(at);
            } else {
                text.insert(at, TOKENS[below(TOKENS.length)]);
            }
        }
        return text.toString();
    }

    private String goodText() {
        StringBuilder text = new StringBuilder();
        for (int n = below(below(4) == 0 ? 20 : 5); n > 0; n--) {
            text.append("star ").append(below(6)).append(" when");
            expression(text, 0);
            text.append(';').append(blank());
        }
        return text.toString();
    }

    private String blank() {
        String[] blanks = {"", " ", "\n", "  "};
        return blanks[below(4)];
    }

    private void expression(StringBuilder text, int depth) {
        part(text, depth);
        boolean compared = false;
        for (int n = below(4); n > 0; n--) {
            String[] signs = {"+", "-", "and", compared ? "+" : "<", compared ? "-" : "="};
            String sign = signs[below(5)];
            compared = !sign.equals("and") && (compared || sign.equals("<") || sign.equals("="));
            text.append(blank()).append(sign.equals("and") ? " and " : sign).append(blank());
            part(text, depth);
        }
    }

    private void part(StringBuilder text, int depth) {
        if (below(4) == 0 && depth < 6) {
            text.append('(');
            expression(text, depth + 1);
            text.append(')');
        } else if (random.nextBoolean()) {
            text.append(' ').append(TOKENS[3 + below(6)]).append(' ');
        } else {
            text.append(below(below(2) == 0 ? 3 : 200));
        }
    }

    private void oneCall(int which, int a, int b, int c) {
        calls++;
        String call = run + which + "(" + a + ", " + b + ", " + c + ")";
        int got = answer(() -> ofBook(which, a, b, c));
        due.is(call, got, ofModel(which, a, b, c));
    }

    private static int answer(IntSupplier call) {
        try {
            return call.getAsInt();
        } catch (NoSuchElementException noSuch) {
            return Model.THROWS;
        }
    }

    private int ofBook(int which, int a, int b, int c) {
        switch (which) {
            case 0: return book.years(a);
            case 1: return book.fact(a, b, c);
            case 2: return book.line(a, b, c) ? 1 : 0;
            case 3: return book.check(a, b);
            case 4: return book.rate(a);
            case 5: return book.chance(a);
            case 6: return book.takes(a, b) ? 1 : 0;
            case 7: return book.plan(a, b);
            case 8: return book.letter(a, b, c);
            case 9: return book.weight(a);
            case 10: return book.believed(a);
            case 11: return book.quarrel(a);
            case 12: return book.proof(a);
            case 13: return book.mark(a, b, c) ? 1 : 0;
            case 14: return book.shift(a);
            case 15: return book.paid(a, b == 1) ? 1 : 0;
            case 16: return book.feed(a, (long) b << 32 | c, (long) a * b * c);
            case 17: return book.text();
            case 18: return book.stars(a);
            case 19: return book.number(a, b);
            case 20: return book.edition();
            case 21: return book.printed(a, b, c);
            case 22: return book.errors(a, b);
            case 23: return book.count(a);
            default: return book.look(a, b);
        }
    }

    private int ofModel(int which, int a, int b, int c) {
        switch (which) {
            case 0: return model.years(a);
            case 1: return model.fact(a, b, c);
            case 2: return model.line(a, b, c);
            case 3: return model.check(a, b);
            case 4: return model.rate(a);
            case 5: return model.chance(a);
            case 6: return model.takes(a, b);
            case 7: return model.plan(a, b);
            case 8: return model.letter(a, b, c);
            case 9: return model.weight(a);
            case 10: return model.believed(a);
            case 11: return model.quarrel(a);
            case 12: return model.proof(a);
            case 13: return model.mark(a, b, c);
            case 14: return model.shift(a);
            case 15: return model.paid(a, b == 1);
            case 16: return model.feed(a, (long) b << 32 | c, (long) a * b * c);
            case 17: return model.text();
            case 18: return model.stars(a);
            case 19: return model.number(a, b);
            case 20: return model.edition();
            case 21: return model.printed(a, b, c);
            case 22: return model.errors(a, b);
            case 23: return model.count(a);
            default: return model.look(a, b);
        }
    }
}
