import java.util.ArrayList;
import java.util.List;
import java.util.function.Consumer;
import java.util.function.Function;
import java.util.function.ToLongFunction;

/** What the tests of edges share: a case for each sentence of the document, answers that are due, twins. */
final class Cases {
    static final int BAD = -1, STATE = -2, FULL = -3, NONE = -9, NO = -1000000;
    static final int LOWEST = Integer.MIN_VALUE, HIGHEST = Integer.MAX_VALUE;
    /** A PIECE of one letter, with nothing else to it. */
    static final String WORD = "w1 0 99 0 0;";

    /** A look that changes the object comes alone: each look has twins of its own. */
    private static final List<Function<EdgeOfCard, List<Long>>> LOOKS = List.of(Cases::allThatIsTold,
        Cases::allThatMayBeUndone, x -> behindBack(x, 0), x -> behindBack(x, 1), Cases::behindCard, Cases::allSeen);

    private static String sentence = "";
    private static int sentences = 0;
    private static int asked = 0;
    private static int wrong = 0;

    private Cases() {
    }

    // ---- cases

    /** A sentence of the document, and what shows that it holds. */
    static void says(String said, Runnable shown) {
        sentence = said;
        sentences++;
        try {
            shown.run();
        } catch (RuntimeException thrown) {
            wrong++;
            System.out.println("[" + sentence + "] threw " + thrown);
        }
    }

    static void due(String call, long got, long want) {
        asked++;
        if (got != want) {
            wrong++;
            System.out.println("[" + sentence + "] " + call + " answered " + got + ", due is " + want);
        }
    }

    static void end(String name) {
        System.out.println(name + ": " + sentences + " sentences, " + asked + " answers, " + wrong + " wrong");
        if (wrong != 0) {
            System.exit(1);
        }
    }

    // ---- objects

    static void typeAll(EdgeOfCard x, String text) {
        for (int i = 0; i < text.length(); i++) {
            x.type(text.charAt(i));
        }
    }

    /** A text that must be sound becomes the card. */
    static EdgeOfCard tell(EdgeOfCard x, String text) {
        x.clear();
        typeAll(x, text);
        int items = (int) text.chars().filter(c -> c == ';').count();
        due("card of '" + text + "'", x.card(), items);
        return x;
    }

    static EdgeOfCard read(String text) {
        return tell(new EdgeOfCard(), text);
    }

    static EdgeOfCard readIn(int size, String text) {
        EdgeOfCard x = read(text);
        if (size < 5) {
            x.smaller(size);
        }
        return x;
    }

    // ---- twins

    /** The call answers so, and leaves the object as its twin is that was never asked. */
    static void changesNothing(String call, Consumer<EdgeOfCard> made, ToLongFunction<EdgeOfCard> asks, long answer) {
        leavesAsTwin(call, made, x -> due(call, asks.applyAsLong(x), answer), x -> { });
    }

    /** Two objects made alike, of which each goes its own way, can't be told apart behind that. */
    static void leavesAsTwin(String call, Consumer<EdgeOfCard> made, Consumer<EdgeOfCard> way,
        Consumer<EdgeOfCard> otherWay) {
        for (Function<EdgeOfCard, List<Long>> look : LOOKS) {
            EdgeOfCard x = new EdgeOfCard();
            made.accept(x);
            way.accept(x);
            EdgeOfCard twin = new EdgeOfCard();
            made.accept(twin);
            otherWay.accept(twin);
            same(call, look.apply(x), look.apply(twin));
        }
    }

    private static void same(String call, List<Long> got, List<Long> want) {
        asked++;
        if (!got.equals(want)) {
            wrong++;
            System.out.println("[" + sentence + "] " + call + " changed\n  " + want + " to\n  " + got);
        }
    }

    private static void addNow(EdgeOfCard x, List<Long> all) {
        for (int what = 0; what <= 6; what++) {
            all.add((long) x.now(what));
        }
    }

    private static List<Long> allThatIsTold(EdgeOfCard x) {
        List<Long> all = new ArrayList<>();
        addNow(x, all);
        for (int what = 0; what <= 5; what++) {
            all.add((long) x.count(what));
        }
        all.add(x.trace());
        for (int l = 0; l < 6; l++) {
            all.add((long) x.line(l));
        }
        int pieces = x.count(1);
        for (int w = 0; w <= pieces; w++) {
            for (int what = 0; what <= 5; what++) {
                all.add((long) x.word(w, what));
            }
            all.add((long) x.two(w));
        }
        int least = x.count(2);
        all.add((long) x.greatest());
        all.add((long) x.even(0));
        all.add((long) x.fill(least, (1 << pieces) - 1, 0));
        all.add((long) x.fill(least, (1 << pieces) - 1, 1));
        all.add((long) x.kept(5, 1));
        all.add((long) x.telegram(2, 1));
        all.add((long) x.begun(least, 3));
        all.add(x.odds(least, 3, 0));
        all.add((long) x.sizes());
        for (int kind = 0; kind <= 5; kind++) {
            all.add((long) x.mark(kind, 0));
        }
        all.add(x.trace());
        return all;
    }

    private static List<Long> allThatMayBeUndone(EdgeOfCard x) {
        List<Long> all = new ArrayList<>();
        for (int i = 0; i < 14; i++) {
            addNow(x, all);
            all.add((long) x.count(4));
            all.add((long) x.undo());
        }
        return all;
    }

    private static List<Long> behindBack(EdgeOfCard x, int image) {
        List<Long> all = new ArrayList<>();
        all.add((long) x.back(image));
        all.addAll(allThatMayBeUndone(x));
        return all;
    }

    private static List<Long> behindCard(EdgeOfCard x) {
        List<Long> all = new ArrayList<>();
        all.add((long) x.card());
        all.addAll(allThatIsTold(x));
        return all;
    }

    private static List<Long> allSeen(EdgeOfCard x) {
        List<Long> all = new ArrayList<>();
        for (int i = 0; i < 8; i++) {
            all.add((long) x.sizes());
            all.add((long) x.saw(0, 0));
        }
        all.add((long) x.forget());
        all.add((long) x.sizes());
        return all;
    }

    // ---- objects of which much is known, for calls that must change nothing

    /** Something of all there is: written, left out, smaller, turned over, kept, seen, marked, typed. */
    static void inTheMidst(EdgeOfCard x) {
        tell(x, "z2;l30;l20;l9;w3 4 99 2 1;w2 5 0 0 0;w4 1 1 3 2;w1 9 99 0 0;w2 2 2 1 1;");
        due("writes", x.writes(), 15);
        due("keep", x.keep(0), 1);
        due("smaller", x.smaller(3), 5);
        due("omits", x.omits(), 1);
        due("turnsOver", x.turnsOver(), 1);
        due("keep", x.keep(1), 2);
        due("writes", x.writes(), 8);
        due("saw", x.saw(0, 0), 1);
        due("saw", x.saw(1, 0), 2);
        due("mark", x.mark(3, 0), 14);
        typeAll(x, "l7;z4;w2 1 99 0 1;");
    }

    /** No more goes: the text is full, so is what was SEEN; all is written, the LINE is the last, the SIZE LEAST. */
    static void full(EdgeOfCard x) {
        tell(x, "z4;l9;l60;w1 4 99 2 0;w2 5 0 0 1;w1 2 1 1 0;");
        due("smaller", x.smaller(4), 5);
        due("writes", x.writes(), 5);
        due("keep", x.keep(0), 1);
        due("omits", x.omits(), 1);
        due("turnsOver", x.turnsOver(), 1);
        due("writes", x.writes(), 56);
        due("keep", x.keep(1), 3);
        for (int i = 0; i < 6; i++) {
            x.saw(i % 2, i % 2);
        }
        due("seen", x.count(3), 6);
        due("mark", x.mark(5, 2), 5);
        typeAll(x, "l 41;" + " ".repeat(190) + "l 42;");
        due("bytes", x.count(5), 200);
    }

    /** Twelve steps may be UNDONE, one more was lost. */
    static void manySteps(EdgeOfCard x) {
        tell(x, "l60;l50;l40;l30;l20;l10;" + "w1 1 99 1 0;".repeat(10));
        x.omits();
        x.smaller(4);
        for (int i = 0; i < 5; i++) {
            x.turnsOver();
            x.omits();
        }
        x.smaller(2);
        due("known", x.count(4), 12);
        due("keep", x.keep(1), 6);
    }
}
