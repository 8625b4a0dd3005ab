import java.math.BigInteger;
import java.util.ArrayDeque;
import java.util.ArrayList;
import java.util.Deque;
import java.util.HashMap;
import java.util.HashSet;
import java.util.List;
import java.util.Map;
import java.util.Set;
import java.util.TreeMap;
import java.util.regex.Matcher;
import java.util.regex.Pattern;

/**
 * A second reading of the document, by other means than the class: all sets are tried, sums are
 * counted anew, and the text is checked by a machine of states and worked out by splitting it.
 */
final class Model {
    static final int THROWS = Integer.MIN_VALUE;

    private static final class Fact {
        int kind;
        int place;
        int value;
        int year;
        int length = 1;
        int worth = 1;
        final List<int[]> checks = new ArrayList<>();
    }

    private static final class Letter {
        int reader;
        int fact;
        int value;
        int proof;
    }

    private static final class Edition {
        final List<Integer> believed = new ArrayList<>();
        final List<Integer> checksAhead = new ArrayList<>();
        final List<Integer> stars = new ArrayList<>();
    }

    private static final class Token {
        String text;
        int at;
    }

    private int now;
    private final List<Fact> facts = new ArrayList<>();
    private final List<Letter> letters = new ArrayList<>();
    private final List<Edition> editions = new ArrayList<>();
    private final int[] days = {1, 1, 1, 1, 1, 1, 1, 1, 1, 1};
    private final Map<Integer, Map<Integer, Integer>> marks = new TreeMap<>();
    private final Set<Integer> praised = new HashSet<>();
    private final StringBuilder tape = new StringBuilder();
    private List<List<String>> lines = new ArrayList<>();

    int years(int n) {
        if (n < 0 || n > 20 || now + n > 99) {
            return -1;
        }
        return now += n;
    }

    int fact(int kind, int place, int value) {
        if (kind < 0 || kind > 5 || place < 0 || place > 9 || value < 0 || value > 9999
            || facts.size() == 60) {
            return -1;
        }
        Fact fact = new Fact();
        fact.kind = kind;
        fact.place = place;
        fact.value = value;
        fact.year = now;
        facts.add(fact);
        return facts.size() - 1;
    }

    int line(int fact, int length, int worth) {
        if (!isFact(fact) || length < 1 || length > 9 || worth < 0 || worth > 999) {
            return 0;
        }
        facts.get(fact).length = length;
        facts.get(fact).worth = worth;
        return 1;
    }

    int check(int fact, int value) {
        if (!isFact(fact) || value < 0 || value > 9999) {
            return -1;
        }
        Fact checked = facts.get(fact);
        int other = checked.value == value ? 0 : 1;
        checked.checks.add(new int[] {now - checked.year, other, value});
        checked.value = value;
        checked.year = now;
        for (Letter letter : letters) {
            if (letter.fact == fact && letter.proof == 0) {
                letter.proof = letter.value == value ? 1 : 2;
            }
        }
        return other;
    }

    int rate(int kind) {
        if (kind < 0 || kind > 5) {
            return -1;
        }
        int years = 0;
        int changes = 0;
        for (Fact fact : facts) {
            for (int[] check : fact.checks) {
                years += fact.kind == kind ? check[0] : 0;
                changes += fact.kind == kind ? check[1] : 0;
            }
        }
        BigInteger still = BigInteger.valueOf(1000000).multiply(
            BigInteger.valueOf(years + 1 - changes));
        return Math.max(0, still.divide(BigInteger.valueOf(years + 2)).intValueExact());
    }

    int chance(int fact) {
        if (!isFact(fact)) {
            return -1;
        }
        BigInteger chance = BigInteger.valueOf(1000000);
        for (int year = facts.get(fact).year; year < now; year++) {
            chance = chance.multiply(BigInteger.valueOf(rate(facts.get(fact).kind)))
                .divide(BigInteger.valueOf(1000000));
        }
        return chance.intValueExact();
    }

    int takes(int place, int many) {
        if (place < 0 || place > 9 || many < 1 || many > 20) {
            return 0;
        }
        days[place] = many;
        return 1;
    }

    int plan(int many, int what) {
        if (many < 0 || many > 99 || what < 0 || what > 1) {
            return -1;
        }
        long[] doubt = new long[10];
        for (int fact = 0; fact < facts.size(); fact++) {
            doubt[facts.get(fact).place] += 1000000 - chance(fact);
        }
        int best = 0;
        long bestDoubt = 0;
        int bestDays = 0;
        for (int set = 0; set < 1024; set++) {
            long sum = 0;
            int taken = 0;
            for (int place = 0; place < 10; place++) {
                sum += (set >> place & 1) * doubt[place];
                taken += (set >> place & 1) * days[place];
            }
            if (taken <= many && (sum > bestDoubt || sum == bestDoubt && taken < bestDays)) {
                best = set;
                bestDoubt = sum;
                bestDays = taken;
            }
        }
        return what == 0 ? best : (int) (bestDoubt / 1000);
    }

    int letter(int reader, int fact, int value) {
        if (reader < 0 || reader > 19 || !isFact(fact) || value < 0 || value > 9999
            || letters.size() == 100) {
            return -1;
        }
        Letter letter = new Letter();
        letter.reader = reader;
        letter.fact = fact;
        letter.value = value;
        letters.add(letter);
        return letters.size() - 1;
    }

    int weight(int reader) {
        if (reader < 0 || reader > 19) {
            return -1;
        }
        int right = 0;
        int proven = 0;
        for (Letter letter : letters) {
            right += letter.reader == reader && letter.proof == 1 ? 1 : 0;
            proven += letter.reader == reader && letter.proof != 0 ? 1 : 0;
        }
        return 1000 * (right + 1) / (proven + 2);
    }

    int believed(int fact) {
        if (!isFact(fact)) {
            return -1;
        }
        Map<Integer, Set<Integer>> sayers = sayers(fact);
        int own = facts.get(fact).value;
        int best = own;
        int bestSum = chance(fact) / 1000;
        for (int reader : sayers.getOrDefault(own, new HashSet<>())) {
            bestSum += weight(reader);
        }
        for (Map.Entry<Integer, Set<Integer>> said : sayers.entrySet()) {
            int sum = 0;
            for (int reader : said.getValue()) {
                sum += weight(reader);
            }
            // The values come in order, so the least of equal ones comes first.
            if (said.getKey() != own && sum > bestSum) {
                best = said.getKey();
                bestSum = sum;
            }
        }
        return best;
    }

    int quarrel(int fact) {
        return !isFact(fact) ? -1 : sayers(fact).size() > 1 ? 1 : 0;
    }

    private Map<Integer, Set<Integer>> sayers(int fact) {
        Map<Integer, Set<Integer>> sayers = new TreeMap<>();
        for (Letter letter : letters) {
            if (letter.fact == fact && letter.proof == 0) {
                sayers.computeIfAbsent(letter.value, v -> new HashSet<>()).add(letter.reader);
            }
        }
        return sayers;
    }

    int proof(int letter) {
        return letter < 0 || letter >= letters.size() ? -1 : letters.get(letter).proof;
    }

    int mark(int place, int walker, int m) {
        if (place < 0 || place > 9 || walker < 0 || walker > 4 || m < 0 || m > 100) {
            return 0;
        }
        marks.computeIfAbsent(place, p -> new TreeMap<>()).put(walker, m);
        return 1;
    }

    int shift(int walker) {
        if (walker < 0 || walker > 4) {
            return THROWS;
        }
        int sum = 0;
        int both = 0;
        for (Map<Integer, Integer> of : marks.values()) {
            if (of.containsKey(0) && of.containsKey(walker)) {
                sum += of.get(walker) - of.get(0);
                both++;
            }
        }
        return both == 0 ? 0 : Integer.signum(sum) * (Math.abs(sum) / both);
    }

    int paid(int place, boolean yes) {
        if (place < 0 || place > 9) {
            return 0;
        }
        if (yes) {
            praised.add(place);
        } else {
            praised.remove(place);
        }
        return 1;
    }

    int feed(long a, long b, long c) {
        for (long part : new long[] {a, b, c}) {
            for (byte sign : java.nio.ByteBuffer.allocate(8).putLong(part).array()) {
                if ((sign == 10 || sign >= 32 && sign <= 126) && tape.length() < 600) {
                    tape.append((char) sign);
                }
            }
        }
        return tape.length();
    }

    int text() {
        List<Token> tokens = tokens(tape.toString());
        tape.setLength(0);
        List<List<String>> read = new ArrayList<>();
        int fault = fault(tokens, read);
        if (fault == 0) {
            lines = read;
        }
        return fault;
    }

    private static List<Token> tokens(String text) {
        List<Token> tokens = new ArrayList<>();
        Matcher matcher = Pattern.compile("[a-z]+|[0-9]+|[^ \n]").matcher(text);
        while (matcher.find()) {
            Token token = new Token();
            token.text = matcher.group();
            token.at = matcher.start();
            tokens.add(token);
        }
        Token end = new Token();
        end.text = "END";
        end.at = text.length();
        tokens.add(end);
        return tokens;
    }

    /** A machine of states with a stack of open brackets: what may follow decides. */
    private static int fault(List<Token> tokens, List<List<String>> read) {
        String state = "line";
        Deque<Boolean> compared = new ArrayDeque<>();
        List<String> line = new ArrayList<>();
        for (Token token : tokens) {
            int kind = 1;
            String text = token.text;
            boolean number = text.matches("[0-9]{1,4}");
            switch (state) {
                case "line":
                    if (text.equals("END")) {
                        return 0;
                    }
                    if (text.equals("star")) {
                        kind = read.size() == 16 ? 5 : 0;
                        state = "stars";
                    }
                    break;
                case "stars":
                    if (number) {
                        kind = Integer.parseInt(text) > 5 ? 4 : 0;
                        state = "when";
                        line.add(text);
                    }
                    break;
                case "when":
                    if (text.equals("when")) {
                        kind = 0;
                        state = "part";
                        compared.push(false);
                    }
                    break;
                case "part":
                    if (number || text.matches("marks|mean|least|greatest|facts|paid|[(]")) {
                        kind = compared.size() > 5 ? 5 : 0;
                        line.add(text);
                        if (text.equals("(")) {
                            compared.push(false);
                        } else {
                            state = "behind";
                        }
                    }
                    break;
                default:
                    if (text.equals(";") && compared.size() == 1) {
                        kind = 0;
                        state = "line";
                        compared.pop();
                        read.add(line);
                        line = new ArrayList<>();
                    } else if (text.equals(")") && compared.size() > 1) {
                        kind = 0;
                        compared.pop();
                        line.add(text);
                    } else if (text.matches("[+]|-|and")
                        || text.matches("[<=]") && !compared.peek()) {
                        kind = 0;
                        state = "part";
                        boolean comparedNow = compared.pop() || text.matches("[<=]");
                        compared.push(comparedNow && !text.equals("and"));
                        line.add(text);
                    }
            }
            if (kind != 0) {
                return kind + 16 * token.at;
            }
        }
        throw new AssertionError("the end was passed");
    }

    int stars(int place) {
        if (place < 0 || place > 9) {
            return -1;
        }
        Map<String, Integer> words = words(place);
        for (List<String> line : lines) {
            if (value(line.subList(1, line.size()), words) != 0) {
                return Integer.parseInt(line.get(0));
            }
        }
        return 0;
    }

    private Map<String, Integer> words(int place) {
        List<Integer> scaled = new ArrayList<>();
        marks.getOrDefault(place, new TreeMap<>()).forEach(
            (walker, m) -> scaled.add(Math.min(100, Math.max(0, m - shift(walker)))));
        Map<String, Integer> words = new HashMap<>();
        int sum = scaled.stream().mapToInt(m -> m).sum();
        words.put("marks", scaled.size());
        words.put("mean", scaled.isEmpty() ? 0 : sum / scaled.size());
        words.put("least", scaled.stream().mapToInt(m -> m).min().orElse(0));
        words.put("greatest", scaled.stream().mapToInt(m -> m).max().orElse(0));
        words.put("facts", (int) facts.stream().filter(fact -> fact.place == place).count());
        words.put("paid", praised.contains(place) ? 1 : 0);
        return words;
    }

    /** Splits at the last sign that binds least, outside of brackets. */
    private static int value(List<String> tokens, Map<String, Integer> words) {
        for (String signs : new String[] {"and", "[<=]", "[+]|-"}) {
            int open = 0;
            for (int at = tokens.size() - 1; at >= 0; at--) {
                String token = tokens.get(at);
                open += token.equals(")") ? 1 : token.equals("(") ? -1 : 0;
                if (open == 0 && token.matches(signs)) {
                    int left = value(tokens.subList(0, at), words);
                    int right = value(tokens.subList(at + 1, tokens.size()), words);
                    return join(token, left, right);
                }
            }
        }
        if (tokens.get(0).equals("(")) {
            return value(tokens.subList(1, tokens.size() - 1), words);
        }
        String only = tokens.get(0);
        return words.containsKey(only) ? words.get(only) : Integer.parseInt(only);
    }

    private static int join(String sign, int left, int right) {
        switch (sign) {
            case "and": return left != 0 && right != 0 ? 1 : 0;
            case "<": return left < right ? 1 : 0;
            case "=": return left == right ? 1 : 0;
            case "+": return left + right;
            default: return left - right;
        }
    }

    /** A table of the best sets from each line on, by room; each set is the text of its lines. */
    int number(int fact, int page) {
        if (!isFact(fact) || page < 0 || page > 99) {
            return -1;
        }
        List<Integer> ofPlace = new ArrayList<>();
        for (int n = 0; n < facts.size(); n++) {
            if (facts.get(n).place == facts.get(fact).place) {
                ofPlace.add(n);
            }
        }
        int many = ofPlace.size();
        int[][] worth = new int[many + 1][page + 1];
        int[][] length = new int[many + 1][page + 1];
        boolean[][] take = new boolean[many + 1][page + 1];
        for (int n = many - 1; n >= 0; n--) {
            Fact line = facts.get(ofPlace.get(n));
            for (int room = 0; room <= page; room++) {
                worth[n][room] = worth[n + 1][room];
                length[n][room] = length[n + 1][room];
                if (line.length <= room) {
                    int withWorth = line.worth + worth[n + 1][room - line.length];
                    int withLength = line.length + length[n + 1][room - line.length];
                    if (withWorth > worth[n][room]
                        || withWorth == worth[n][room] && withLength <= length[n][room]) {
                        worth[n][room] = withWorth;
                        length[n][room] = withLength;
                        take[n][room] = true;
                    }
                }
            }
        }
        int room = page;
        int number = 0;
        for (int n = 0; n < many; n++) {
            boolean taken = take[n][room];
            if (taken) {
                number++;
                room -= facts.get(ofPlace.get(n)).length;
            }
            if (ofPlace.get(n) == fact) {
                return taken ? number : 0;
            }
        }
        throw new AssertionError("the fact's line was passed");
    }

    int edition() {
        if (editions.size() == 10) {
            return -1;
        }
        Edition edition = new Edition();
        for (int fact = 0; fact < facts.size(); fact++) {
            edition.believed.add(believed(fact));
            edition.checksAhead.add(facts.get(fact).checks.size());
        }
        for (int place = 0; place < 10; place++) {
            edition.stars.add(stars(place));
        }
        editions.add(edition);
        return editions.size() - 1;
    }

    int printed(int edition, int what, int k) {
        if (edition < 0 || edition >= editions.size() || what < 0 || what > 1) {
            return -1;
        }
        Edition of = editions.get(edition);
        List<Integer> row = what == 0 ? of.believed : of.stars;
        return k < 0 || k >= row.size() ? -1 : row.get(k);
    }

    int errors(int edition, int kind) {
        if (edition < 0 || edition >= editions.size() || kind < -1 || kind > 5) {
            return -1;
        }
        Edition of = editions.get(edition);
        int errors = 0;
        for (int fact = 0; fact < of.believed.size(); fact++) {
            List<int[]> checks = facts.get(fact).checks;
            int first = of.checksAhead.get(fact);
            boolean counts = kind == -1 || facts.get(fact).kind == kind;
            if (counts && first < checks.size() && checks.get(first)[2] != of.believed.get(fact)) {
                errors++;
            }
        }
        return errors;
    }

    int count(int what) {
        int open = 0;
        for (Letter letter : letters) {
            open += letter.proof == 0 ? 1 : 0;
        }
        int[] counts = {facts.size(), now, letters.size(), open, editions.size(), lines.size(),
            tape.length()};
        return what < 0 || what >= counts.length ? -1 : counts[what];
    }

    int look(int fact, int what) {
        if (!isFact(fact) || what < 0 || what > 5) {
            return THROWS;
        }
        Fact of = facts.get(fact);
        return new int[] {of.kind, of.place, of.value, of.year, of.length, of.worth}[what];
    }

    private boolean isFact(int fact) {
        return fact >= 0 && fact < facts.size();
    }
}
