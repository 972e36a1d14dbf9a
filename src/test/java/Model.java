import java.math.BigInteger;
import java.util.ArrayList;
import java.util.Comparator;
import java.util.List;
import java.util.regex.Matcher;
import java.util.regex.Pattern;

/** The document once more, by search and by the Java library: slow, and written in another way than the class. */
final class Model {
    private static final int BAD = -1, STATE = -2, FULL = -3, NONE = -9, NO = -1000000;
    private static final Pattern TOKEN = Pattern.compile(" *([a-z]+|[0-9]+|;)");

    record Word(int letters, int worth, int needs, int sign, int breakAt) { }

    record State(int next, int line, int left, int size, List<Integer> omitted) { }

    record Image(State state, List<State> past) { }

    /** The line of each piece that was put, and what is left of the last one. */
    record Filled(List<Integer> lineOf, int left, boolean all) { }

    private String text = "";
    private List<Integer> lines = List.of();
    private List<Word> words = List.of();
    private int least = 1;
    private State state = new State(0, 0, 0, 5, List.of());
    private List<State> past = new ArrayList<>();
    private final Image[] images = new Image[2];
    private final List<int[]> seen = new ArrayList<>();
    private long trace = 0;

    long call(String name, int a, int b, int c) {
        switch (name) {
            case "type": return type(a);
            case "clear": { int had = text.length(); text = ""; return had; }
            case "card": return card();
            case "line": return isLine(a) ? lines.get(a) : BAD;
            case "word": return word(a, b);
            case "writes": return writes(words.size() > state.next ? words.get(state.next).letters : 0);
            case "signs": return writes(words.size() > state.next ? words.get(state.next).sign : 0);
            case "breaks": return breaks();
            case "omits": return omits();
            case "smaller": return smaller(a);
            case "turnsOver": return turnsOver();
            case "undo": return undo();
            case "now": return now(a);
            case "fill": return fill(a, b, c);
            case "greatest": return greatest();
            case "even": return even(a);
            case "kept": return kept(a, b);
            case "telegram": return telegram(a, b);
            case "begun": return begun(a, b);
            case "odds": return odds(a, b, c);
            case "saw": return saw(a, b);
            case "forget": { int had = seen.size(); seen.clear(); return had; }
            case "sizes": return sizes();
            case "two": return two(a);
            case "mark": return mark(a, b);
            case "keep": return keep(a);
            case "back": return back(a);
            case "count": return count(a);
            case "trace": return trace;
            default: throw new IllegalArgumentException(name);
        }
    }

    private boolean isLine(int l) {
        return l >= 0 && l < lines.size();
    }

    private boolean isWord(int w) {
        return w >= 0 && w < words.size();
    }

    private boolean isSize(int size) {
        return size >= least && size <= 5;
    }

    private int type(int c) {
        if (c < 0 || c > 255) {
            return BAD;
        }
        if (text.length() == 200) {
            return FULL;
        }
        text += (char) c;
        return text.length();
    }

    // ---- the text

    private int card() {
        List<Integer> newLines = new ArrayList<>();
        List<Word> newWords = new ArrayList<>();
        List<Integer> leasts = new ArrayList<>();
        Matcher tokens = TOKEN.matcher(text);
        int behind = 0;
        String item = "";
        List<Integer> numbers = new ArrayList<>();
        int items = 0;
        while (!text.substring(behind).isBlank() || hasOtherBlank(text.substring(behind))) {
            if (!tokens.find(behind) || tokens.start() != behind) {
                return -10 - skipBlanks(behind);
            }
            String token = tokens.group(1);
            int place = tokens.start(1);
            behind = tokens.end();
            if (item.isEmpty()) {
                boolean room = token.equals("l") && newLines.size() < 6
                    || token.equals("w") && newWords.size() < 10 || token.equals("z") && leasts.isEmpty();
                if (!room) {
                    return -10 - place;
                }
                item = token;
            } else if (numbers.size() == (item.equals("w") ? 5 : 1)) {
                if (!token.equals(";")) {
                    return -10 - place;
                }
                items++;
                switch (item) {
                    case "l" -> newLines.add(numbers.get(0));
                    case "z" -> leasts.add(numbers.get(0));
                    default -> newWords.add(new Word(numbers.get(0), numbers.get(1), numbers.get(2),
                        numbers.get(3), numbers.get(4)));
                }
                item = "";
                numbers.clear();
            } else {
                if (!token.matches("0|[1-9][0-9]?")
                    || !range(item, numbers, newWords.size()).contains(Integer.parseInt(token))) {
                    return -10 - place;
                }
                numbers.add(Integer.parseInt(token));
            }
        }
        if (!item.isEmpty()) {
            return -10 - text.length();
        }
        text = "";
        lines = newLines;
        words = newWords;
        least = leasts.isEmpty() ? 1 : leasts.get(0);
        state = new State(0, 0, lines.isEmpty() ? 0 : lines.get(0), 5, List.of());
        past.clear();
        images[0] = null;
        images[1] = null;
        seen.clear();
        return items;
    }

    private static boolean hasOtherBlank(String rest) {
        return !rest.replace(" ", "").isEmpty();
    }

    private int skipBlanks(int from) {
        int at = from;
        while (text.charAt(at) == ' ') {
            at++;
        }
        return at;
    }

    private static List<Integer> range(String item, List<Integer> numbers, int wordsTold) {
        if (item.equals("l")) {
            return numbersFrom(1, 60);
        }
        if (item.equals("z")) {
            return numbersFrom(1, 5);
        }
        switch (numbers.size()) {
            case 0: return numbersFrom(1, 12);
            case 1: return numbersFrom(0, 9);
            case 2: {
                List<Integer> needs = numbersFrom(0, wordsTold - 1);
                needs.add(99);
                return needs;
            }
            case 3: return numbersFrom(0, 12);
            default: return numbersFrom(0, numbers.get(0) - 1);
        }
    }

    private static List<Integer> numbersFrom(int low, int high) {
        List<Integer> all = new ArrayList<>();
        for (int i = low; i <= high; i++) {
            all.add(i);
        }
        return all;
    }

    private int word(int w, int what) {
        if (!isWord(w) || what < 0 || what > 5) {
            return BAD;
        }
        Word word = words.get(w);
        int[] answers = {word.letters, word.worth, word.needs, word.sign, word.breakAt,
            state.omitted.contains(w) ? 1 : 0};
        return answers[what];
    }

    // ---- writing

    private void become(State later) {
        past.add(state);
        if (past.size() > 12) {
            past.remove(0);
        }
        state = later;
    }

    private boolean lineHasNothing() {
        return state.left == lines.get(state.line);
    }

    private int writes(int letters) {
        if (state.next >= words.size() || lines.isEmpty() || letters == 0) {
            return STATE;
        }
        int left = state.left - state.size * letters - (lineHasNothing() ? 0 : state.size);
        if (left < 0) {
            return STATE;
        }
        become(new State(state.next + 1, state.line, left, state.size, state.omitted));
        return left;
    }

    private int breaks() {
        if (state.next >= words.size() || state.line + 1 >= lines.size()) {
            return STATE;
        }
        Word word = words.get(state.next);
        int left = state.left - state.size * (word.breakAt + 1) - (lineHasNothing() ? 0 : state.size);
        int leftThen = lines.get(state.line + 1) - state.size * (word.letters - word.breakAt);
        if (word.breakAt == 0 || left < 0 || leftThen < 0) {
            return STATE;
        }
        become(new State(state.next + 1, state.line + 1, leftThen, state.size, state.omitted));
        return leftThen;
    }

    private int omits() {
        if (state.next >= words.size()) {
            return STATE;
        }
        List<Integer> omitted = new ArrayList<>(state.omitted);
        omitted.add(state.next);
        become(new State(state.next + 1, state.line, state.left, state.size, omitted));
        return omitted.size();
    }

    private int smaller(int size) {
        if (size < 1 || size > 5) {
            return BAD;
        }
        int before = state.size;
        if (size >= before || size < least) {
            return STATE;
        }
        become(new State(state.next, state.line, state.left, size, state.omitted));
        return before;
    }

    private int turnsOver() {
        int line = state.line + 1;
        if (line >= lines.size()) {
            return STATE;
        }
        become(new State(state.next, line, lines.get(line), state.size, state.omitted));
        return line;
    }

    private int undo() {
        if (past.isEmpty()) {
            return STATE;
        }
        state = past.remove(past.size() - 1);
        return past.size();
    }

    /** A piece, what it needs, what that needs, .. */
    private List<Integer> chain(int w) {
        List<Integer> chain = new ArrayList<>();
        for (int at = w; at != 99; at = words.get(at).needs) {
            chain.add(at);
        }
        return chain;
    }

    private int now(int what) {
        int omitted = 0;
        for (int w : state.omitted) {
            omitted += 1 << w;
        }
        int sense = 0;
        int worth = 0;
        for (int w = 0; w < state.next; w++) {
            if (chain(w).stream().noneMatch(state.omitted::contains)) {
                sense += 1 << w;
                worth += words.get(w).worth;
            }
        }
        int[] answers = {state.next, state.line, state.left, state.size, omitted, sense, worth};
        return what < 0 || what > 6 ? BAD : answers[what];
    }

    // ---- sizes

    private static int[] everywhere(int size) {
        return new int[] {size, size, size, size, size, size};
    }

    /** letters of the pieces, in order; a size for each line; lines as wide as told here. */
    private static Filled filled(List<Integer> letters, int[] sizes, List<Integer> wide) {
        List<Integer> lineOf = new ArrayList<>();
        int line = 0;
        int onThis = 0;
        int used = 0;
        for (int piece : letters) {
            while (line < wide.size()) {
                int more = (piece + (onThis > 0 ? 1 : 0)) * sizes[line];
                if (used + more <= wide.get(line)) {
                    used += more;
                    onThis++;
                    break;
                }
                line++;
                used = 0;
                onThis = 0;
            }
            if (line == wide.size()) {
                return new Filled(lineOf, 0, false);
            }
            lineOf.add(line);
        }
        return new Filled(lineOf, lineOf.isEmpty() ? 0 : wide.get(line) - used, true);
    }

    private List<Integer> lettersOf(int set) {
        List<Integer> letters = new ArrayList<>();
        for (int w = 0; w < words.size(); w++) {
            if ((set & 1 << w) != 0) {
                letters.add(words.get(w).letters);
            }
        }
        return letters;
    }

    private Filled filledAll(int size) {
        return filled(lettersOf(~0), everywhere(size), lines);
    }

    private int fill(int size, int set, int what) {
        if (!isSize(size) || set < 0 || set >= 1 << words.size() || what < 0 || what > 1) {
            return BAD;
        }
        Filled filled = filled(lettersOf(set), everywhere(size), lines);
        if (set == 0 || !filled.all) {
            return NONE;
        }
        return what == 0 ? filled.lineOf.get(filled.lineOf.size() - 1) : filled.left;
    }

    private int greatest() {
        int greatest = NONE;
        for (int size = least; size <= 5; size++) {
            greatest = filledAll(size).all ? size : greatest;
        }
        return greatest;
    }

    private int even(int l) {
        if (l != -1 && !isLine(l)) {
            return BAD;
        }
        List<int[]> all = new ArrayList<>();
        goOn(new int[6], 0, all);
        int[] best = null;
        for (int[] sizes : all) {
            if (filled(lettersOf(~0), sizes, lines).all && (best == null || isEvener(sizes, best))) {
                best = sizes;
            }
        }
        if (best == null) {
            return NONE;
        }
        return l == -1 ? cost(best) : best[l];
    }

    private void goOn(int[] sizes, int line, List<int[]> all) {
        if (line == lines.size()) {
            all.add(sizes.clone());
            return;
        }
        for (int size = least; size <= (line == 0 ? 5 : sizes[line - 1]); size++) {
            sizes[line] = size;
            goOn(sizes, line + 1, all);
        }
    }

    private int cost(int[] sizes) {
        int cost = 0;
        for (int l = 1; l < lines.size(); l++) {
            cost += (sizes[l - 1] - sizes[l]) * (sizes[l - 1] - sizes[l]);
        }
        return cost;
    }

    private boolean isEvener(int[] sizes, int[] best) {
        if (cost(sizes) != cost(best)) {
            return cost(sizes) < cost(best);
        }
        for (int l = 0; l < lines.size(); l++) {
            if (sizes[l] != best[l]) {
                return sizes[l] > best[l];
            }
        }
        return false;
    }

    private int worthOf(int set) {
        int worth = 0;
        for (int w = 0; w < words.size(); w++) {
            worth += (set >> w) % 2 * words.get(w).worth;
        }
        return worth;
    }

    private boolean isClosed(int set) {
        for (int w = 0; w < words.size(); w++) {
            if ((set & 1 << w) != 0 && !chain(w).stream().allMatch(need -> (set & 1 << need) != 0)) {
                return false;
            }
        }
        return true;
    }

    private int best(List<Integer> sets) {
        Comparator<Integer> order = Comparator.comparing((Integer set) -> -worthOf(set));
        order = order.thenComparing(set -> lettersOf(set).stream().mapToInt(Integer::intValue).sum());
        return sets.stream().filter(this::isClosed).min(order.thenComparing(set -> set)).orElseThrow();
    }

    private int kept(int size, int what) {
        if (!isSize(size) || what < 0 || what > 1) {
            return BAD;
        }
        List<Integer> sets = numbersFrom(0, (1 << words.size()) - 1);
        sets.removeIf(set -> !filled(lettersOf(set), everywhere(size), lines).all);
        return what == 0 ? worthOf(best(sets)) : best(sets);
    }

    private int telegram(int m, int what) {
        if (m < 0 || m > 10 || what < 0 || what > 1) {
            return BAD;
        }
        List<Integer> sets = numbersFrom(0, (1 << words.size()) - 1);
        sets.removeIf(set -> lettersOf(set).size() > m);
        return what == 0 ? worthOf(best(sets)) : best(sets);
    }

    private int begun(int size, int far) {
        if (!isSize(size) || far < 0 || far > 60) {
            return BAD;
        }
        List<Integer> narrower = new ArrayList<>(lines);
        if (!narrower.isEmpty()) {
            narrower.set(0, narrower.get(0) - far);
        }
        return filled(lettersOf(~0), everywhere(size), narrower).lineOf.size();
    }

    private long odds(int size, int x, int what) {
        if (!isSize(size) || x < 0 || x > 10 || what < 0 || what > 1) {
            return BAD;
        }
        BigInteger upper = chances(new ArrayList<>(lettersOf(~0)), 0, size, x);
        BigInteger lower = BigInteger.TEN.pow(Math.min(9, words.size()));
        BigInteger shared = upper.gcd(lower);
        return (what == 0 ? upper : lower).divide(shared).longValueExact();
    }

    private BigInteger chances(List<Integer> letters, int w, int size, int x) {
        if (w == letters.size() || w == 9) {
            return filled(letters, everywhere(size), lines).all ? BigInteger.ONE : BigInteger.ZERO;
        }
        BigInteger same = chances(letters, w + 1, size, x).multiply(BigInteger.valueOf(10 - x));
        letters.set(w, letters.get(w) + 2);
        BigInteger longer = chances(letters, w + 1, size, x).multiply(BigInteger.valueOf(x));
        letters.set(w, letters.get(w) - 2);
        return same.add(longer);
    }

    // ---- a hand read back

    private int saw(int w, int l) {
        if (!isWord(w) || !isLine(l)) {
            return BAD;
        }
        if (seen.size() == 6) {
            return FULL;
        }
        seen.add(new int[] {w, l});
        return seen.size();
    }

    private int sizes() {
        int bits = 0;
        for (int size = least; size <= 5; size++) {
            Filled filled = filledAll(size);
            if (filled.all && seen.stream().allMatch(one -> filled.lineOf.get(one[0]) == one[1])) {
                bits += 1 << size;
            }
        }
        return bits;
    }

    private int two(int i) {
        if (i < 0 || i > words.size()) {
            return BAD;
        }
        int many = 0;
        for (int w = i; w < words.size(); w++) {
            many += chain(w).stream().anyMatch(need -> need < i) ? 1 : 0;
        }
        return many;
    }

    // ---- kinds, images

    private int mark(int kind, int w) {
        if (kind < 0 || kind > 5 || !isWord(w)) {
            return NO;
        }
        Word word = words.get(w);
        int[] traces = {1, 11, 101, 1011, 10101, 100001};
        int[] marks = {word.letters, word.letters + word.worth, word.letters - word.breakAt,
            2 * (word.letters + word.worth), word.letters - word.breakAt + state.line, word.letters + state.size};
        trace += traces[kind];
        return marks[kind];
    }

    private int keep(int image) {
        if (image < 0 || image > 1) {
            return BAD;
        }
        images[image] = new Image(state, new ArrayList<>(past));
        return state.next;
    }

    private int back(int image) {
        if (image < 0 || image > 1) {
            return BAD;
        }
        if (images[image] == null) {
            return STATE;
        }
        state = images[image].state;
        past = new ArrayList<>(images[image].past);
        return state.next;
    }

    private int count(int what) {
        int[] answers = {lines.size(), words.size(), least, seen.size(), past.size(), text.length()};
        return what < 0 || what > 5 ? BAD : answers[what];
    }
}
