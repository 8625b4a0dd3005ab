import java.util.Arrays;
import java.util.NoSuchElementException;

/**
 * A guide book: facts that age, walkers' weeks, readers' letters, marks and stars, pages, editions
 * and their errors. The document ../shared/DOC.md says what each call answers.
 */
public final class GuideBook {
    public static final int NONE = -1;

    private static final int KINDS = 6;
    private static final int PLACES = 10;
    private static final int READERS = 20;
    private static final int WALKERS = 5;

    private static final int MOST_FACTS = 60;
    private static final int MOST_LETTERS = 100;
    private static final int MOST_EDITIONS = 10;
    private static final int MOST_SIGNS = 600;
    private static final int MOST_LINES = 16;
    private static final int MOST_PARTS = 5;

    private static final int LAST_YEAR = 99;
    private static final int MOST_YEARS_AT_ONCE = 20;
    private static final int LAST_VALUE = 9999;
    private static final int MOST_LENGTH = 9;
    private static final int MOST_WORTH = 999;
    private static final int MOST_DAYS_OF_PLACE = 20;
    private static final int MOST_ROOM = 99;
    private static final int BEST_MARK = 100;
    private static final int MOST_STARS = 5;

    private static final int MILLION = 1000000;
    private static final int THOUSAND = 1000;

    private static final int OPEN = 0;
    private static final int RIGHT = 1;
    private static final int WRONG = 2;

    private static final int OF_FACT = 0;
    private static final int OF_PLACE = 1;

    // A sign that is a token stands for itself, so these numbers keep clear of all signs.
    private static final int END = 0;
    private static final int NO_TOKEN = 1;
    private static final int NUMBER = 2;
    private static final int STAR = 201;
    private static final int WHEN = 202;
    private static final int AND = 203;
    private static final int MARKS = 204;
    private static final int MEAN = 205;
    private static final int LEAST = 206;
    private static final int GREATEST = 207;
    private static final int FACTS = 208;
    private static final int PAID = 209;
    private static final int NAMES = PAID - MARKS + 1;

    private static final int MISPLACED = 1;
    private static final int TOO_MANY_STARS = 4;
    private static final int TOO_MUCH = 5;

    private final Facts facts = new Facts();
    private final Letters letters = new Letters();
    private final Marks marks = new Marks();
    private final Tape tape = new Tape();
    private final Parser parser = new Parser();
    private final Script script = new Script();
    private final Editions editions = new Editions();
    private final Bag bag = new Bag();
    private final int[] daysOf = new int[PLACES];
    private final boolean[] praised = new boolean[PLACES];
    private final int[] named = new int[NAMES];

    public GuideBook() {
        Arrays.fill(daysOf, 1);
    }

    public int years(int n) {
        if (!within(n, MOST_YEARS_AT_ONCE) || facts.now + n > LAST_YEAR) {
            return NONE;
        }
        facts.now += n;
        return facts.now;
    }

    public int fact(int kind, int place, int value) {
        boolean fits = isKind(kind) && isPlace(place) && isValue(value);
        if (!fits || facts.size >= MOST_FACTS) {
            return NONE;
        }
        return facts.add(kind, place, value);
    }

    public boolean line(int fact, int length, int worth) {
        if (!facts.has(fact) || length < 1 || length > MOST_LENGTH || !within(worth, MOST_WORTH)) {
            return false;
        }
        facts.length[fact] = length;
        facts.worth[fact] = worth;
        return true;
    }

    public int check(int fact, int value) {
        if (!facts.has(fact) || !isValue(value)) {
            return NONE;
        }
        letters.settle(fact, value);
        editions.settle(fact, value);
        return facts.renew(fact, value) ? 1 : 0;
    }

    public int rate(int kind) {
        return isKind(kind) ? facts.rateOf(kind) : NONE;
    }

    public int chance(int fact) {
        return facts.has(fact) ? facts.chanceOf(fact) : NONE;
    }

    public boolean takes(int place, int days) {
        if (!isPlace(place) || days < 1 || days > MOST_DAYS_OF_PLACE) {
            return false;
        }
        daysOf[place] = days;
        return true;
    }

    public int plan(int days, int what) {
        if (!within(days, MOST_ROOM) || !within(what, 1)) {
            return NONE;
        }
        long set = placesFor(days);
        return what == 0 ? (int) set : doubtOfSet(set) / THOUSAND;
    }

    public int letter(int reader, int fact, int value) {
        boolean fits = isReader(reader) && facts.has(fact) && isValue(value);
        if (!fits || letters.size >= MOST_LETTERS) {
            return NONE;
        }
        return letters.add(reader, fact, value);
    }

    public int weight(int reader) {
        return isReader(reader) ? letters.weightOf(reader) : NONE;
    }

    public int believed(int fact) {
        return facts.has(fact) ? beliefOf(fact) : NONE;
    }

    public int quarrel(int fact) {
        if (!facts.has(fact)) {
            return NONE;
        }
        return letters.differOn(fact) ? 1 : 0;
    }

    public int proof(int letter) {
        return letters.has(letter) ? letters.state[letter] : NONE;
    }

    public boolean mark(int place, int walker, int m) {
        if (!isPlace(place) || !isWalker(walker) || !within(m, BEST_MARK)) {
            return false;
        }
        marks.given[place][walker] = m;
        return true;
    }

    public int shift(int walker) throws NoSuchElementException {
        if (!isWalker(walker)) {
            throw new NoSuchElementException("no such walker");
        }
        return marks.shiftOf(walker);
    }

    public boolean paid(int place, boolean yes) {
        if (!isPlace(place)) {
            return false;
        }
        praised[place] = yes;
        return true;
    }

    public int feed(long a, long b, long c) {
        tape.appendBytes(a);
        tape.appendBytes(b);
        tape.appendBytes(c);
        return tape.length;
    }

    public int text() {
        int fault = parser.parse(tape);
        tape.length = 0;
        // A faulty text is no TEXT: the one there was stays.
        if (fault == 0) {
            script.copy(parser.draft);
        }
        return fault;
    }

    public int stars(int place) {
        return isPlace(place) ? starsOf(place) : NONE;
    }

    public int number(int fact, int page) {
        if (!facts.has(fact) || !within(page, MOST_ROOM)) {
            return NONE;
        }
        long kept = linesKept(facts.place[fact], page);
        if ((kept & 1L << fact) == 0) {
            return 0;
        }
        long upToFact = (2L << fact) - 1;
        return Long.bitCount(kept & upToFact);
    }

    public int edition() {
        if (editions.size >= MOST_EDITIONS) {
            return NONE;
        }
        int made = editions.start(facts.size);
        for (int fact = 0; fact < facts.size; fact++) {
            editions.values[made][fact] = beliefOf(fact);
        }
        for (int place = 0; place < PLACES; place++) {
            editions.stars[made][place] = starsOf(place);
        }
        return made;
    }

    public int printed(int edition, int what, int k) {
        if (!editions.has(edition)) {
            return NONE;
        }
        if (what == OF_FACT && editions.hasFact(edition, k)) {
            return editions.values[edition][k];
        }
        if (what == OF_PLACE && isPlace(k)) {
            return editions.stars[edition][k];
        }
        return NONE;
    }

    public int errors(int edition, int kind) {
        boolean ofAll = kind == -1;
        if (!editions.has(edition) || !ofAll && !isKind(kind)) {
            return NONE;
        }
        int errors = 0;
        for (int fact = 0; fact < editions.facts[edition]; fact++) {
            boolean counts = ofAll || facts.kind[fact] == kind;
            if (counts && editions.state[edition][fact] == WRONG) {
                errors++;
            }
        }
        return errors;
    }

    public int count(int what) {
        switch (what) {
            case 0: return facts.size;
            case 1: return facts.now;
            case 2: return letters.size;
            case 3: return letters.open;
            case 4: return editions.size;
            case 5: return script.lines;
            case 6: return tape.length;
            default: return NONE;
        }
    }

    public int look(int fact, int what) throws NoSuchElementException {
        if (!facts.has(fact)) {
            throw new NoSuchElementException("no such fact");
        }
        switch (what) {
            case 0: return facts.kind[fact];
            case 1: return facts.place[fact];
            case 2: return facts.value[fact];
            case 3: return facts.year[fact];
            case 4: return facts.length[fact];
            case 5: return facts.worth[fact];
            default: throw new NoSuchElementException("nothing such of a fact");
        }
    }

    private static boolean within(int n, int last) {
        return n >= 0 && n <= last;
    }

    /** The quotient, cut towards 0; 0 where there is nothing to divide by. */
    private static int cut(long sum, int parts) {
        return parts == 0 ? 0 : (int) (sum / parts);
    }

    private static boolean isKind(int kind) {
        return within(kind, KINDS - 1);
    }

    private static boolean isPlace(int place) {
        return within(place, PLACES - 1);
    }

    private static boolean isReader(int reader) {
        return within(reader, READERS - 1);
    }

    private static boolean isWalker(int walker) {
        return within(walker, WALKERS - 1);
    }

    private static boolean isValue(int value) {
        return within(value, LAST_VALUE);
    }

    private static boolean isName(int token) {
        return token >= MARKS && token <= PAID;
    }

    /** The PLACES of the PLAN, a bit each. */
    private long placesFor(int days) {
        bag.open(days);
        // The highest place comes last and joins only to better a set: so the least number wins.
        for (int place = 0; place < PLACES; place++) {
            bag.offer(place, daysOf[place], facts.doubtOf(place), false);
        }
        return bag.picked();
    }

    private int doubtOfSet(long set) {
        int doubt = 0;
        for (int place = 0; place < PLACES; place++) {
            if ((set & 1L << place) != 0) {
                doubt += facts.doubtOf(place);
            }
        }
        return doubt;
    }

    /** The FACTS whose lines are KEPT on a PLACE's page, a bit each. */
    private long linesKept(int place, int page) {
        bag.open(page);
        // The first line comes last and joins equal sets too: so sets with it go ahead.
        for (int fact = facts.size - 1; fact >= 0; fact--) {
            if (facts.place[fact] == place) {
                bag.offer(fact, facts.length[fact], facts.worth[fact], true);
            }
        }
        return bag.picked();
    }

    private int beliefOf(int fact) {
        int own = facts.value[fact];
        int best = own;
        int bestSum = facts.chanceOf(fact) / THOUSAND + letters.weightFor(fact, own);
        for (int letter = 0; letter < letters.size; letter++) {
            int said = letters.said[letter];
            if (!letters.isOpenOn(letter, fact) || said == own) {
                continue;
            }
            int sum = letters.weightFor(fact, said);
            boolean lessOfEqual = sum == bestSum && best != own && said < best;
            if (sum > bestSum || lessOfEqual) {
                best = said;
                bestSum = sum;
            }
        }
        return best;
    }

    private int starsOf(int place) {
        marks.describe(place, named);
        named[FACTS - MARKS] = facts.countOf(place);
        named[PAID - MARKS] = praised[place] ? 1 : 0;
        return script.starsFor(named);
    }

    /** NOW, the FACTS with their lines, and what CHECKS told of each kind. */
    private static final class Facts {
        private final int[] kind = new int[MOST_FACTS];
        private final int[] place = new int[MOST_FACTS];
        private final int[] value = new int[MOST_FACTS];
        private final int[] year = new int[MOST_FACTS];
        private final int[] length = new int[MOST_FACTS];
        private final int[] worth = new int[MOST_FACTS];
        private final int[] kindYears = new int[KINDS];
        private final int[] kindChanges = new int[KINDS];
        private int size;
        private int now;

        private boolean has(int fact) {
            return fact >= 0 && fact < size;
        }

        private int add(int ofKind, int ofPlace, int withValue) {
            int added = size;
            kind[added] = ofKind;
            place[added] = ofPlace;
            value[added] = withValue;
            year[added] = now;
            length[added] = 1;
            worth[added] = 1;
            size++;
            return added;
        }

        /** A CHECK; whether the value is another one. */
        private boolean renew(int fact, int seen) {
            boolean changed = value[fact] != seen;
            kindYears[kind[fact]] += now - year[fact];
            if (changed) {
                kindChanges[kind[fact]]++;
            }
            value[fact] = seen;
            year[fact] = now;
            return changed;
        }

        private int rateOf(int ofKind) {
            long still = Math.max(0, kindYears[ofKind] + 1 - kindChanges[ofKind]);
            return cut(MILLION * still, kindYears[ofKind] + 2);
        }

        private int chanceOf(int fact) {
            long rate = rateOf(kind[fact]);
            long chance = MILLION;
            for (int y = year[fact]; y < now; y++) {
                chance = chance * rate / MILLION;
            }
            return (int) chance;
        }

        private int doubtOf(int ofPlace) {
            int doubt = 0;
            for (int fact = 0; fact < size; fact++) {
                if (place[fact] == ofPlace) {
                    doubt += MILLION - chanceOf(fact);
                }
            }
            return doubt;
        }

        private int countOf(int ofPlace) {
            int found = 0;
            for (int fact = 0; fact < size; fact++) {
                if (place[fact] == ofPlace) {
                    found++;
                }
            }
            return found;
        }
    }

    /** The LETTERS, and how often each READER was right and wrong. */
    private static final class Letters {
        private final int[] reader = new int[MOST_LETTERS];
        private final int[] about = new int[MOST_LETTERS];
        private final int[] said = new int[MOST_LETTERS];
        private final int[] state = new int[MOST_LETTERS];
        private final int[] rightOf = new int[READERS];
        private final int[] wrongOf = new int[READERS];
        private int size;
        private int open;

        private boolean has(int letter) {
            return letter >= 0 && letter < size;
        }

        private int add(int from, int fact, int value) {
            int added = size;
            reader[added] = from;
            about[added] = fact;
            said[added] = value;
            state[added] = OPEN;
            size++;
            open++;
            return added;
        }

        private boolean isOpenOn(int letter, int fact) {
            return about[letter] == fact && state[letter] == OPEN;
        }

        private void settle(int fact, int value) {
            for (int letter = 0; letter < size; letter++) {
                if (isOpenOn(letter, fact)) {
                    close(letter, said[letter] == value);
                }
            }
        }

        private void close(int letter, boolean wasRight) {
            int[] tally = wasRight ? rightOf : wrongOf;
            tally[reader[letter]]++;
            state[letter] = wasRight ? RIGHT : WRONG;
            open--;
        }

        private int weightOf(int from) {
            return cut(THOUSAND * (rightOf[from] + 1), rightOf[from] + wrongOf[from] + 2);
        }

        /** The sum of the WEIGHTS of those who say the value, each READER once. */
        private int weightFor(int fact, int value) {
            int counted = 0;
            int sum = 0;
            for (int letter = 0; letter < size; letter++) {
                int bit = 1 << reader[letter];
                boolean says = isOpenOn(letter, fact) && said[letter] == value;
                if (says && (counted & bit) == 0) {
                    counted |= bit;
                    sum += weightOf(reader[letter]);
                }
            }
            return sum;
        }

        private boolean differOn(int fact) {
            int first = NONE;
            for (int letter = 0; letter < size; letter++) {
                if (!isOpenOn(letter, fact)) {
                    continue;
                }
                if (first != NONE && first != said[letter]) {
                    return true;
                }
                first = said[letter];
            }
            return false;
        }
    }

    /** The MARKS of each PLACE by each walker, NONE where there is none. */
    private static final class Marks {
        private final int[][] given = new int[PLACES][WALKERS];

        private Marks() {
            for (int place = 0; place < PLACES; place++) {
                Arrays.fill(given[place], NONE);
            }
        }

        private int shiftOf(int walker) {
            int sum = 0;
            int both = 0;
            for (int place = 0; place < PLACES; place++) {
                int own = given[place][walker];
                int first = given[place][0];
                if (own != NONE && first != NONE) {
                    sum += own - first;
                    both++;
                }
            }
            return cut(sum, both);
        }

        private int onScale(int place, int walker) {
            int moved = given[place][walker] - shiftOf(walker);
            return Math.max(0, Math.min(BEST_MARK, moved));
        }

        /** What the text's words marks, mean, least and greatest mean for a PLACE. */
        private void describe(int place, int[] named) {
            int many = 0;
            int sum = 0;
            int least = BEST_MARK;
            int greatest = 0;
            for (int walker = 0; walker < WALKERS; walker++) {
                if (given[place][walker] != NONE) {
                    int scaled = onScale(place, walker);
                    many++;
                    sum += scaled;
                    least = Math.min(least, scaled);
                    greatest = Math.max(greatest, scaled);
                }
            }
            named[MARKS - MARKS] = many;
            named[MEAN - MARKS] = cut(sum, many);
            named[LEAST - MARKS] = many == 0 ? 0 : least;
            named[GREATEST - MARKS] = greatest;
        }
    }

    /** The signs that wait to be read. */
    private static final class Tape {
        private final byte[] signs = new byte[MOST_SIGNS];
        private int length;

        private void appendBytes(long eight) {
            for (int low = 56; low >= 0; low -= 8) {
                append((int) (eight >>> low & 255));
            }
        }

        private void append(int sign) {
            boolean known = sign == '\n' || sign >= 32 && sign <= 126;
            if (known && length < MOST_SIGNS) {
                signs[length] = (byte) sign;
                length++;
            }
        }

        private boolean isBlank(int at) {
            return within(at, length - 1) && (signs[at] == '\n' || signs[at] == ' ');
        }

        private boolean isLetter(int at) {
            return within(at, length - 1) && signs[at] >= 'a' && signs[at] <= 'z';
        }

        private boolean isDigit(int at) {
            return within(at, length - 1) && signs[at] >= '0' && signs[at] <= '9';
        }

        private int endOfLetters(int from) {
            int end = from;
            while (end < length && isLetter(end)) {
                end++;
            }
            return end;
        }

        private int endOfDigits(int from) {
            int end = from;
            while (end < length && isDigit(end)) {
                end++;
            }
            return end;
        }

        private boolean spells(int from, int to, String word) {
            if (from < 0 || to > length || to - from != word.length()) {
                return false;
            }
            for (int i = 0; i < word.length(); i++) {
                if (signs[from + i] != word.charAt(i)) {
                    return false;
                }
            }
            return true;
        }
    }

    /** The TOKENS on the TAPE: what each is, where it stands, a NUMBER's value; END is the last. */
    private static final class Tokens {
        private static final int MOST_DIGITS = 4;

        private final int[] what = new int[MOST_SIGNS + 1];
        private final int[] where = new int[MOST_SIGNS + 1];
        private final int[] value = new int[MOST_SIGNS + 1];
        private int size;

        private void scan(Tape tape) {
            size = 0;
            for (int at = 0; at < tape.length; at++) {
                if (startsToken(tape, at)) {
                    addFrom(tape, at);
                }
            }
            add(END, tape.length, 0);
        }

        private static boolean startsToken(Tape tape, int at) {
            boolean goesOn = tape.isLetter(at) && tape.isLetter(at - 1)
                || tape.isDigit(at) && tape.isDigit(at - 1);
            return !goesOn && !tape.isBlank(at);
        }

        private void addFrom(Tape tape, int at) {
            if (tape.isLetter(at)) {
                add(wordToken(tape, at, tape.endOfLetters(at)), at, 0);
            } else if (tape.isDigit(at)) {
                addNumber(tape, at, tape.endOfDigits(at));
            } else {
                add(signToken(tape.signs[at]), at, 0);
            }
        }

        private void addNumber(Tape tape, int from, int to) {
            if (to - from > MOST_DIGITS) {
                add(NO_TOKEN, from, 0);
                return;
            }
            int number = 0;
            for (int at = from; at < to; at++) {
                number = number * 10 + (tape.signs[at] - '0');
            }
            add(NUMBER, from, number);
        }

        private void add(int token, int at, int number) {
            if (size <= MOST_SIGNS) {
                what[size] = token;
                where[size] = at;
                value[size] = number;
                size++;
            }
        }

        private static int signToken(int sign) {
            switch (sign) {
                case '(':
                case ')':
                case '<':
                case '=':
                case '+':
                case '-':
                case ';':
                    return sign;
                default:
                    return NO_TOKEN;
            }
        }

        // A WORD that the grammar does not know can stand nowhere: it is as good as no token.
        private static int wordToken(Tape tape, int from, int to) {
            if (tape.spells(from, to, "star")) {
                return STAR;
            }
            if (tape.spells(from, to, "when")) {
                return WHEN;
            }
            if (tape.spells(from, to, "and")) {
                return AND;
            }
            if (tape.spells(from, to, "marks")) {
                return MARKS;
            }
            if (tape.spells(from, to, "mean")) {
                return MEAN;
            }
            if (tape.spells(from, to, "least")) {
                return LEAST;
            }
            if (tape.spells(from, to, "greatest")) {
                return GREATEST;
            }
            if (tape.spells(from, to, "facts")) {
                return FACTS;
            }
            return tape.spells(from, to, "paid") ? PAID : NO_TOKEN;
        }
    }

    /** Reads the TAPE as a TEXT into a draft. */
    private static final class Parser {
        // What binds least comes first.
        private static final int BY_AND = 0;
        private static final int BY_COMPARISON = 1;
        private static final int BY_SUM = 2;

        private final Tokens tokens = new Tokens();
        private final Script draft = new Script();
        private int at;
        private int fault;

        /** 0, or the FAULT. */
        private int parse(Tape tape) {
            tokens.scan(tape);
            draft.clear();
            at = 0;
            fault = 0;
            for (int n = 0; n <= MOST_LINES && token() != END; n++) {
                if (!parseLine(n)) {
                    return fault;
                }
            }
            return 0;
        }

        private boolean parseLine(int linesAhead) {
            if (token() != STAR) {
                return refuse(MISPLACED);
            }
            if (linesAhead >= MOST_LINES) {
                return refuse(TOO_MUCH);
            }
            at++;
            if (token() != NUMBER) {
                return refuse(MISPLACED);
            }
            int given = tokens.value[at];
            if (given > MOST_STARS) {
                return refuse(TOO_MANY_STARS);
            }
            at++;
            if (!pass(WHEN) || !parseJoined(BY_AND, 0) || !pass(';')) {
                return false;
            }
            draft.endLine(given);
            return true;
        }

        /** An E, TEST or SUM, by what joins it, with so many PARTS (depth) round it. */
        private boolean parseJoined(int by, int depth) {
            if (by > BY_SUM) {
                return parsePart(depth);
            }
            if (!parseJoined(by + 1, depth)) {
                return false;
            }
            int most = by == BY_COMPARISON ? 1 : MOST_SIGNS;
            for (int n = 0; n < most && joins(token()) == by; n++) {
                int sign = token();
                at++;
                if (!parseJoined(by + 1, depth)) {
                    return false;
                }
                draft.add(-sign);
            }
            return true;
        }

        private boolean parsePart(int depth) {
            int token = token();
            boolean named = isName(token);
            if (token != '(' && token != NUMBER && !named) {
                return refuse(MISPLACED);
            }
            if (depth >= MOST_PARTS) {
                return refuse(TOO_MUCH);
            }
            if (token == '(') {
                at++;
                return parseJoined(BY_AND, depth + 1) && pass(')');
            }
            draft.add(named ? -token : tokens.value[at]);
            at++;
            return true;
        }

        private static int joins(int token) {
            switch (token) {
                case AND:
                    return BY_AND;
                case '<':
                case '=':
                    return BY_COMPARISON;
                case '+':
                case '-':
                    return BY_SUM;
                default:
                    return NONE;
            }
        }

        private int token() {
            return at < tokens.size ? tokens.what[at] : END;
        }

        private boolean pass(int wanted) {
            if (token() != wanted) {
                return refuse(MISPLACED);
            }
            at++;
            return true;
        }

        // Only tokens ahead of the END are passed, so there is one here.
        private boolean refuse(int kind) {
            int where = at < tokens.size ? tokens.where[at] : 0;
            fault = kind + 16 * where;
            return false;
        }
    }

    /**
     * A TEXT. The code has each line's E with its signs behind what they join: a number of 0 or
     * more is itself, one below 0 is a token.
     */
    private static final class Script {
        // In each of 5 PARTS within one another an "and", a comparison and a sum may wait.
        private static final int MOST_WAITING = 32;

        private final int[] code = new int[MOST_SIGNS];
        private final int[] endOf = new int[MOST_LINES];
        private final int[] starsIn = new int[MOST_LINES];
        private final int[] waiting = new int[MOST_WAITING];
        private int size;
        private int lines;

        private void clear() {
            size = 0;
            lines = 0;
        }

        private void add(int cell) {
            if (size < MOST_SIGNS) {
                code[size] = cell;
                size++;
            }
        }

        private void endLine(int given) {
            if (lines < MOST_LINES) {
                endOf[lines] = size;
                starsIn[lines] = given;
                lines++;
            }
        }

        private void copy(Script other) {
            size = other.size;
            lines = other.lines;
            System.arraycopy(other.code, 0, code, 0, size);
            System.arraycopy(other.endOf, 0, endOf, 0, lines);
            System.arraycopy(other.starsIn, 0, starsIn, 0, lines);
        }

        private int starsFor(int[] named) {
            int from = 0;
            for (int n = 0; n < lines; n++) {
                if (valueOf(from, endOf[n], named) != 0) {
                    return starsIn[n];
                }
                from = endOf[n];
            }
            return 0;
        }

        private int valueOf(int from, int to, int[] named) {
            int top = 0;
            for (int at = from; at < to; at++) {
                int cell = code[at];
                if (cell >= 0 || isName(-cell)) {
                    if (top < MOST_WAITING) {
                        waiting[top] = cell >= 0 ? cell : named[-cell - MARKS];
                        top++;
                    }
                } else if (top >= 2) {
                    top--;
                    waiting[top - 1] = joined(-cell, waiting[top - 1], waiting[top]);
                }
            }
            return top == 0 ? 0 : waiting[top - 1];
        }

        private static int joined(int token, int left, int right) {
            switch (token) {
                case '+': return left + right;
                case '-': return left - right;
                case '<': return left < right ? 1 : 0;
                case '=': return left == right ? 1 : 0;
                default: return left != 0 && right != 0 ? 1 : 0;
            }
        }
    }

    /** The EDITIONS as they were printed, and what the first CHECK behind each told. */
    private static final class Editions {
        private final int[][] values = new int[MOST_EDITIONS][MOST_FACTS];
        private final int[][] state = new int[MOST_EDITIONS][MOST_FACTS];
        private final int[][] stars = new int[MOST_EDITIONS][PLACES];
        private final int[] facts = new int[MOST_EDITIONS];
        private int size;

        private boolean has(int edition) {
            return edition >= 0 && edition < size;
        }

        private boolean hasFact(int edition, int fact) {
            return fact >= 0 && fact < facts[edition];
        }

        private int start(int factsInIt) {
            int started = size;
            facts[started] = factsInIt;
            size++;
            return started;
        }

        private void settle(int fact, int value) {
            for (int edition = 0; edition < size; edition++) {
                if (hasFact(edition, fact) && state[edition][fact] == OPEN) {
                    boolean asPrinted = values[edition][fact] == value;
                    state[edition][fact] = asPrinted ? RIGHT : WRONG;
                }
            }
        }
    }

    /** Picks things that fit into a room: the most gain, of equal picks the least size in all. */
    private static final class Bag {
        // More than any room holds, so that no size outweighs a gain.
        private static final long GAIN_STEP = 1000;

        private final long[] best = new long[MOST_ROOM + 1];
        private final long[] things = new long[MOST_ROOM + 1];
        private int room;

        private void open(int withRoom) {
            room = withRoom;
            Arrays.fill(best, 0L);
            Arrays.fill(things, 0L);
        }

        /** A thing joins the picks that it betters, and with onEqual those it leaves as good. */
        private void offer(int thing, int size, int gain, boolean onEqual) {
            long score = gain * GAIN_STEP - size;
            for (int left = room; left >= size; left--) {
                long with = best[left - size] + score;
                if (with > best[left] || onEqual && with == best[left]) {
                    best[left] = with;
                    things[left] = things[left - size] | 1L << thing;
                }
            }
        }

        private long picked() {
            return things[room];
        }
    }
}
