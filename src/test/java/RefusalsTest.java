import java.util.ArrayList;
import java.util.Arrays;
import java.util.List;
import java.util.function.Consumer;

/**
 * "Refused, and nothing changes, the first of these: BAD (a number is not as told, or there is no such thing),
 * STATE (as told), FULL." Every number of every call, on either side of what it may be and far from it, in objects
 * of several states.
 */
public final class RefusalsTest {
    private static final int BAD = Cases.BAD, STATE = Cases.STATE, FULL = Cases.FULL, NONE = Cases.NONE, NO = Cases.NO;

    /** A call by its numbers. */
    private interface Call {
        long ask(EdgeOfCard x, int[] numbers);
    }

    public static void main(String[] args) {
        state("a new object", x -> { }, 0, 0, 1);
        state("LINES alone", x -> Cases.tell(x, "l9;l7;"), 2, 0, 1);
        state("PIECES alone", x -> Cases.tell(x, "z3;" + Cases.WORD.repeat(3)), 0, 3, 3);
        state("in the midst", Cases::inTheMidst, 3, 5, 2);
        state("full", Cases::full, 2, 3, 4);
        state("many steps", Cases::manySteps, 6, 10, 1);
        Cases.says("the first of these: BAD, STATE", RefusalsTest::badAheadOfState);
        Cases.says("the first of these: BAD, FULL", RefusalsTest::badAheadOfFull);
        Cases.says("BAD ahead of NONE", RefusalsTest::badAheadOfNone);
        Cases.says("all that can be refused by what stands", RefusalsTest::refusedTogether);
        Cases.end("RefusalsTest");
    }

    /** All calls with numbers, in an object of so many LINES and PIECES, and with this LEAST. */
    private static void state(String name, Consumer<EdgeOfCard> made, int lines, int pieces, int least) {
        int all = (1 << pieces) - 1;
        int[] size = {least, 5};
        int[] what = {0, 1};
        int[] piece = {0, pieces - 1};
        int[] line = {0, lines - 1};
        sweep(name, "type", made, (x, n) -> x.type(n[0]), BAD, new int[] {0, 255});
        sweep(name, "line", made, (x, n) -> x.line(n[0]), BAD, line);
        sweep(name, "word", made, (x, n) -> x.word(n[0], n[1]), BAD, piece, new int[] {0, 5});
        sweep(name, "smaller", made, (x, n) -> x.smaller(n[0]), BAD, new int[] {1, 5});
        sweep(name, "now", made, (x, n) -> x.now(n[0]), BAD, new int[] {0, 6});
        sweep(name, "fill", made, (x, n) -> x.fill(n[0], n[1], n[2]), BAD, size, new int[] {0, all}, what);
        sweep(name, "even", made, (x, n) -> x.even(n[0]), BAD, new int[] {-1, lines - 1});
        sweep(name, "kept", made, (x, n) -> x.kept(n[0], n[1]), BAD, size, what);
        sweep(name, "telegram", made, (x, n) -> x.telegram(n[0], n[1]), BAD, new int[] {0, 10}, what);
        sweep(name, "begun", made, (x, n) -> x.begun(n[0], n[1]), BAD, size, new int[] {0, 60});
        sweep(name, "odds", made, (x, n) -> x.odds(n[0], n[1], n[2]), BAD, size, new int[] {0, 10}, what);
        sweep(name, "saw", made, (x, n) -> x.saw(n[0], n[1]), BAD, piece, line);
        sweep(name, "two", made, (x, n) -> x.two(n[0]), BAD, new int[] {0, pieces});
        sweep(name, "mark", made, (x, n) -> x.mark(n[0], n[1]), NO, new int[] {0, 5}, piece);
        sweep(name, "keep", made, (x, n) -> x.keep(n[0]), BAD, new int[] {0, 1});
        sweep(name, "back", made, (x, n) -> x.back(n[0]), BAD, new int[] {0, 1});
        sweep(name, "count", made, (x, n) -> x.count(n[0]), BAD, new int[] {0, 5});
    }

    /** Each number wrong while the others are right (the least, the most) or wrong, too. */
    private static void sweep(String name, String call, Consumer<EdgeOfCard> made, Call asks, int refusal,
        int[]... ranges) {
        Cases.says(call + ": refused, and nothing changes, in " + name, () -> {
            for (int at = 0; at < ranges.length; at++) {
                List<int[]> wrongs = new ArrayList<>();
                for (int wrong : wrongs(ranges[at])) {
                    wrongs.addAll(withOthers(at, wrong, ranges));
                }
                refuse(name + ": " + call, made, asks, refusal, wrongs);
            }
        });
    }

    /** Some forty at a time, so that no object is asked more than 512 times. */
    private static void refuse(String name, Consumer<EdgeOfCard> made, Call asks, int refusal, List<int[]> wrongs) {
        for (int from = 0; from < wrongs.size(); from += 40) {
            List<int[]> some = wrongs.subList(from, Math.min(from + 40, wrongs.size()));
            Cases.leavesAsTwin(name, made, x -> {
                for (int[] numbers : some) {
                    Cases.due(name + " " + Arrays.toString(numbers), asks.ask(x, numbers), refusal);
                }
            }, x -> { });
        }
    }

    /** Next to the range, far from it, and what would be in it again by its lower bits. */
    private static List<Integer> wrongs(int[] range) {
        int low = range[0];
        int high = range[1];
        int[] some = {low - 1, low - 2, high + 1, high + 2, low + 32, high + 32, low - 32, low + 64, low + 256,
            high - 256, low + 65536, low | 1 << 31, high | 1 << 31, low | 1 << 30, Cases.LOWEST, Cases.LOWEST + 1,
            Cases.HIGHEST, Cases.HIGHEST - 1};
        List<Integer> wrongs = new ArrayList<>();
        for (int number : some) {
            if (number < low || number > high) {
                wrongs.add(number);
            }
        }
        return wrongs;
    }

    private static List<int[]> withOthers(int at, int wrong, int[][] ranges) {
        List<int[]> all = new ArrayList<>();
        for (int others = 0; others < 4; others++) {
            int[] numbers = new int[ranges.length];
            for (int i = 0; i < ranges.length; i++) {
                int low = ranges[i][0];
                int high = ranges[i][1];
                int[] choices = {low, high, low - 1, high + 1};
                numbers[i] = i == at ? wrong : choices[others];
            }
            all.add(numbers);
            if (ranges.length == 1) {
                break;
            }
        }
        return all;
    }

    // ---- the order of refusals

    private static void badAheadOfState() {
        // No lesser one, and none that is a size.
        Cases.changesNothing("smaller 6", Cases::inTheMidst, x -> x.smaller(6), BAD);
        Cases.changesNothing("smaller 5", Cases::inTheMidst, x -> x.smaller(5), STATE);
        // Below LEAST, and none that is a size.
        Cases.changesNothing("smaller 0", Cases::inTheMidst, x -> x.smaller(0), BAD);
        Cases.changesNothing("smaller 1", Cases::inTheMidst, x -> x.smaller(1), STATE);
        // No such IMAGE, and none kept.
        Cases.changesNothing("back 2", x -> Cases.tell(x, "l9;"), x -> x.back(2), BAD);
        Cases.changesNothing("back 1", x -> Cases.tell(x, "l9;"), x -> x.back(1), STATE);
        Cases.changesNothing("back -1", x -> Cases.tell(x, "l9;"), x -> x.back(-1), BAD);
        Cases.changesNothing("back 0", x -> Cases.tell(x, "l9;"), x -> x.back(0), STATE);
    }

    private static void badAheadOfFull() {
        Cases.changesNothing("type 256", Cases::full, x -> x.type(256), BAD);
        Cases.changesNothing("type 255", Cases::full, x -> x.type(255), FULL);
        Cases.changesNothing("type -1", Cases::full, x -> x.type(-1), BAD);
        Cases.changesNothing("type 0", Cases::full, x -> x.type(0), FULL);
        Cases.changesNothing("saw 3, 0", Cases::full, x -> x.saw(3, 0), BAD);
        Cases.changesNothing("saw 2, 0", Cases::full, x -> x.saw(2, 0), FULL);
        Cases.changesNothing("saw 0, 2", Cases::full, x -> x.saw(0, 2), BAD);
        Cases.changesNothing("saw 0, 1", Cases::full, x -> x.saw(0, 1), FULL);
    }

    private static void badAheadOfNone() {
        Consumer<EdgeOfCard> narrow = x -> Cases.tell(x, "z2;l1;l1;" + Cases.WORD);
        Cases.changesNothing("fill", narrow, x -> x.fill(2, 1, 0), NONE);
        Cases.changesNothing("fill, a size below LEAST", narrow, x -> x.fill(1, 1, 0), BAD);
        Cases.changesNothing("fill, a size above 5", narrow, x -> x.fill(6, 1, 0), BAD);
        Cases.changesNothing("fill, bits of none", narrow, x -> x.fill(2, 2, 0), BAD);
        Cases.changesNothing("fill, what 2", narrow, x -> x.fill(2, 1, 2), BAD);
        Cases.changesNothing("fill of none, what 2", narrow, x -> x.fill(2, 0, 2), BAD);
        Cases.changesNothing("even", narrow, x -> x.even(1), NONE);
        Cases.changesNothing("even 2", narrow, x -> x.even(2), BAD);
        Cases.changesNothing("even -1", narrow, x -> x.even(-1), NONE);
        Cases.changesNothing("even -2", narrow, x -> x.even(-2), BAD);
        Cases.changesNothing("greatest", narrow, EdgeOfCard::greatest, NONE);
    }

    /** All refusals one behind another leave no trace together, either. */
    private static void refusedTogether() {
        Cases.leavesAsTwin("all refusals of a full object", Cases::full, x -> {
            Cases.due("type", x.type(' '), FULL);
            Cases.due("writes", x.writes(), STATE);
            Cases.due("signs", x.signs(), STATE);
            Cases.due("breaks", x.breaks(), STATE);
            Cases.due("omits", x.omits(), STATE);
            Cases.due("smaller", x.smaller(4), STATE);
            Cases.due("turnsOver", x.turnsOver(), STATE);
            Cases.due("saw", x.saw(0, 0), FULL);
            Cases.due("mark", x.mark(6, 3), NO);
            Cases.due("keep", x.keep(2), BAD);
            Cases.due("back", x.back(2), BAD);
        }, x -> { });
        Cases.leavesAsTwin("all refusals of a new object", x -> { }, x -> {
            Cases.due("writes", x.writes(), STATE);
            Cases.due("signs", x.signs(), STATE);
            Cases.due("breaks", x.breaks(), STATE);
            Cases.due("omits", x.omits(), STATE);
            Cases.due("smaller", x.smaller(5), STATE);
            Cases.due("turnsOver", x.turnsOver(), STATE);
            Cases.due("undo", x.undo(), STATE);
            Cases.due("back", x.back(0), STATE);
            Cases.due("saw", x.saw(0, 0), BAD);
            Cases.due("mark", x.mark(0, 0), NO);
        }, x -> { });
    }
}
