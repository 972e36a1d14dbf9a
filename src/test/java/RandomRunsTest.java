import java.util.Map;
import java.util.Random;
import java.util.TreeMap;

/** Runs of calls, the same ones every time, whose answers must be those of the Model. */
public final class RandomRunsTest {
    private static final int RUNS = 2000;
    private static final int CALLS = 512;
    private static final String[] WRITING = {"writes", "writes", "writes", "signs", "breaks", "breaks", "omits",
        "smaller", "turnsOver", "undo", "undo", "now", "now", "word", "keep", "back", "mark", "trace", "count"};
    private static final String[] CHEAP = {"line", "word", "now", "fill", "fill", "greatest", "begun", "saw", "saw",
        "forget", "sizes", "two", "mark", "count", "trace", "even"};
    private static final String[] DEAR = {"kept", "telegram", "odds"};
    private static final int[] WRONG = {-2, -1, 6, 7, 10, 11, 61, 99, 256, 1 << 20, Integer.MIN_VALUE,
        Integer.MAX_VALUE, 32, 33};

    private final Random random;
    private final EdgeOfCard x = new EdgeOfCard();
    private final Model model = new Model();
    private final StringBuilder run = new StringBuilder();
    private int calls = 0;
    private boolean failed = false;

    private static final Map<String, Integer> REFUSED = new TreeMap<>();
    private static final Map<String, Integer> ANSWERED = new TreeMap<>();

    private RandomRunsTest(long seed) {
        random = new Random(seed);
    }

    public static void main(String[] args) {
        int wrong = 0;
        for (int seed = 0; seed < RUNS && wrong < 5; seed++) {
            RandomRunsTest test = new RandomRunsTest(seed);
            test.go();
            if (test.failed) {
                wrong++;
                System.out.println("run " + seed + ":\n" + test.run);
            }
        }
        System.out.println("answered: " + ANSWERED);
        System.out.println("refused: " + REFUSED);
        System.out.println("RandomRunsTest: " + wrong + " runs are wrong");
        if (wrong != 0) {
            System.exit(1);
        }
    }

    private void go() {
        // A few runs begin with an object to which nothing is told.
        if (random.nextInt(10) != 0) {
            tell(text());
        }
        while (calls < CALLS && !failed) {
            switch (random.nextInt(8)) {
                case 0 -> tell(random.nextInt(3) == 0 ? spoilt(text()) : text());
                case 1 -> some(DEAR, random.nextInt(3));
                case 2, 3 -> some(CHEAP, random.nextInt(30));
                default -> some(WRITING, random.nextInt(40));
            }
        }
    }

    private void some(String[] names, int many) {
        for (int i = 0; i < many; i++) {
            call(names[random.nextInt(names.length)]);
        }
    }

    // ---- texts

    private void tell(String text) {
        if (random.nextInt(4) != 0) {
            ask("clear", 0, 0, 0);
        }
        for (int i = 0; i < text.length(); i++) {
            ask("type", text.charAt(i), 0, 0);
        }
        ask("card", 0, 0, 0);
    }

    private String blanks() {
        return " ".repeat(Math.max(0, random.nextInt(12) - 9));
    }

    private String number(int low, int high) {
        return " " + blanks() + (low + random.nextInt(high - low + 1));
    }

    private String text() {
        int lines = random.nextInt(7);
        int words = random.nextInt(11);
        int widest = 1 + random.nextInt(60);
        int longest = 1 + random.nextInt(12);
        boolean least = random.nextInt(3) == 0;
        StringBuilder text = new StringBuilder();
        int linesTold = 0;
        int wordsTold = 0;
        while (linesTold < lines || wordsTold < words || least) {
            int which = random.nextInt(3);
            if (which == 0 && linesTold < lines) {
                text.append(blanks()).append('l').append(number(Math.max(1, widest - 20), widest));
                linesTold++;
            } else if (which == 1 && wordsTold < words) {
                text.append(word(wordsTold, longest));
                wordsTold++;
            } else if (which == 2 && least) {
                text.append('z').append(number(1, random.nextBoolean() ? 3 : 5));
                least = false;
            } else {
                continue;
            }
            text.append(blanks()).append(';');
        }
        return text.append(blanks()).toString();
    }

    private String word(int told, int longest) {
        int letters = 1 + random.nextInt(longest);
        boolean needs = told > 0 && random.nextBoolean();
        return "w" + blanks() + letters + number(0, random.nextInt(10)) + (needs ? number(0, told - 1) : " 99")
            + number(0, random.nextInt(13)) + number(0, random.nextInt(letters));
    }

    private String spoilt(String text) {
        String others = "lwz;; 0123456789 9aA*~\t/:`{" + (char) 0 + (char) 255;
        StringBuilder spoilt = new StringBuilder(text);
        int times = 1 + random.nextInt(2);
        for (int i = 0; i < times; i++) {
            int place = random.nextInt(spoilt.length() + 1);
            char other = others.charAt(random.nextInt(others.length()));
            switch (random.nextInt(5)) {
                case 0 -> spoilt.insert(place, other);
                case 1 -> spoilt.setLength(place);
                case 2 -> spoilt.append(random.nextBoolean() ? "l 5;" : "w1 1 99 0 0;");
                case 3 -> spoilt.replace(place, Math.min(place + 1, spoilt.length()), "" + other);
                default -> spoilt.delete(place, Math.min(place + 1, spoilt.length()));
            }
        }
        return spoilt.toString();
    }

    // ---- calls

    private int argument(int low, int high) {
        if (random.nextInt(30) == 0) {
            return WRONG[random.nextInt(WRONG.length)];
        }
        return low + random.nextInt(Math.max(1, high - low + 1));
    }

    private void call(String name) {
        // The model is asked, not the object: that one has 512 calls.
        int lines = (int) model.call("count", 0, 0, 0);
        int pieces = (int) model.call("count", 1, 0, 0);
        int least = (int) model.call("count", 2, 0, 0);
        int size = argument(random.nextInt(8) == 0 ? 0 : least, 5);
        int piece = argument(0, pieces - 1);
        int line = argument(0, lines - 1);
        int what = argument(0, 1);
        int words = random.nextInt(3) == 0 ? (1 << pieces) - 1 : argument(0, (1 << pieces) - 1);
        switch (name) {
            case "line" -> ask(name, line, 0, 0);
            case "word" -> ask(name, piece, argument(0, 5), 0);
            case "smaller" -> ask(name, argument(least, (int) model.call("now", 3, 0, 0) - 1), 0, 0);
            case "now" -> ask(name, argument(0, 6), 0, 0);
            case "fill" -> ask(name, size, words, what);
            case "even" -> ask(name, argument(-1, lines - 1), 0, 0);
            case "kept" -> ask(name, size, what, 0);
            case "telegram" -> ask(name, argument(0, 10), what, 0);
            case "begun" -> ask(name, size, argument(0, random.nextInt(61)), 0);
            case "odds" -> ask(name, size, argument(0, 10), what);
            case "saw" -> ask(name, piece, line, 0);
            case "two" -> ask(name, argument(0, pieces), 0, 0);
            case "mark" -> ask(name, argument(0, 5), piece, 0);
            case "keep", "back" -> ask(name, what, 0, 0);
            case "count" -> ask(name, argument(0, 5), 0, 0);
            default -> ask(name, 0, 0, 0);
        }
    }

    private void ask(String name, int a, int b, int c) {
        if (calls >= CALLS || failed) {
            return;
        }
        calls++;
        long due = model.call(name, a, b, c);
        long got;
        try {
            got = answer(name, a, b, c);
        } catch (RuntimeException thrown) {
            run.append(name).append(' ').append(a).append(' ').append(b).append(' ').append(c)
                .append(" threw ").append(thrown).append('\n');
            failed = true;
            return;
        }
        run.append(name).append(' ').append(a).append(' ').append(b).append(' ').append(c).append(": ").append(got);
        if (got != due) {
            run.append(", due is ").append(due);
            failed = true;
        }
        run.append('\n');
        (due < 0 ? REFUSED : ANSWERED).merge(name, 1, Integer::sum);
    }

    private long answer(String name, int a, int b, int c) {
        switch (name) {
            case "type": return x.type(a);
            case "clear": return x.clear();
            case "card": return x.card();
            case "line": return x.line(a);
            case "word": return x.word(a, b);
            case "writes": return x.writes();
            case "signs": return x.signs();
            case "breaks": return x.breaks();
            case "omits": return x.omits();
            case "smaller": return x.smaller(a);
            case "turnsOver": return x.turnsOver();
            case "undo": return x.undo();
            case "now": return x.now(a);
            case "fill": return x.fill(a, b, c);
            case "greatest": return x.greatest();
            case "even": return x.even(a);
            case "kept": return x.kept(a, b);
            case "telegram": return x.telegram(a, b);
            case "begun": return x.begun(a, b);
            case "odds": return x.odds(a, b, c);
            case "saw": return x.saw(a, b);
            case "forget": return x.forget();
            case "sizes": return x.sizes();
            case "two": return x.two(a);
            case "mark": return x.mark(a, b);
            case "keep": return x.keep(a);
            case "back": return x.back(a);
            case "count": return x.count(a);
            case "trace": return x.trace();
            default: throw new IllegalArgumentException(name);
        }
    }
}
