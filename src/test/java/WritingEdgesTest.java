import java.util.function.Consumer;
import java.util.function.ToLongFunction;

/** The edges of writing: promises 7 to 14, sentence by sentence. */
public final class WritingEdgesTest {
    private static final int BAD = Cases.BAD, STATE = Cases.STATE;
    private static final String WORD = Cases.WORD;

    public static void main(String[] args) {
        Cases.says("A letter written in a size takes so much of a LINE", WritingEdgesTest::lettersTakeTheSize);
        Cases.says("a blank ahead of a PIECE that is not the first of its LINE", WritingEdgesTest::blankAhead);
        Cases.says("the first of its LINE: no blank", WritingEdgesTest::noBlankAhead);
        Cases.says("not the first: behind a SIGN, behind the rest of a broken one", WritingEdgesTest::blankBehindParts);
        Cases.says("a SIZE (5 at first) on a LINE (0 at first); LEFT (all at first)", WritingEdgesTest::atFirst);
        Cases.says("7: STATE: no PIECE is next, no LINE, it does not go.", WritingEdgesTest::writesRefused);
        Cases.says("Its SIGN likewise, if it has one.", WritingEdgesTest::signGoes);
        Cases.says("8: STATE: no PIECE is next, no LINE, it has none, it does not go.", WritingEdgesTest::signsRefused);
        Cases.says("BREAKS: its LETTERS to BREAK and the stroke on this LINE", WritingEdgesTest::firstPart);
        Cases.says("the rest at the beginning of the next one (.. WIDE enough)", WritingEdgesTest::rest);
        Cases.says("9: STATE: no PIECE is next, no LINE, it may not, it does not go", WritingEdgesTest::breaksRefused);
        Cases.says("10: OMITS: how many are OMITTED. STATE: no PIECE is next.", WritingEdgesTest::omitting);
        Cases.says("11: SMALLER: a lesser one, LEAST at least. BAD; STATE", WritingEdgesTest::allSizes);
        Cases.says("11: refused, and nothing changes", WritingEdgesTest::smallerRefused);
        Cases.says("12: TURNS: which LINE. STATE: there is none.", WritingEdgesTest::turning);
        Cases.says("UNDONE: 12 are known, older ones are lost", WritingEdgesTest::twelveKnown);
        Cases.says("UNDONE: all is as ahead of it", WritingEdgesTest::asAhead);
        Cases.says("13: how many more may be. STATE: none.", WritingEdgesTest::undoRefused);
        Cases.says("14: 0 the next PIECE, .. 6 their WORTH. BAD.", WritingEdgesTest::nows);
        Cases.says("14: LEFT (0 without LINES)", WritingEdgesTest::withoutLines);
        Cases.says("MAKES SENSE: not OMITTED, as far as one came", WritingEdgesTest::asFarAsOneCame);
        Cases.says("MAKES SENSE: whose NEEDS (and theirs) were not either", WritingEdgesTest::needsAndTheirs);
        Cases.end("WritingEdgesTest");
    }

    private static void due(String call, long got, long want) {
        Cases.due(call, got, want);
    }

    private static EdgeOfCard read(String text) {
        return Cases.read(text);
    }

    private static String word(int letters) {
        return "w" + letters + " 0 99 0 0;";
    }

    /**
     * What just goes on a LINE so WIDE does so with a place more, too, and not with one less. PIECES of the text
     * are told ahead of it; steps come ahead of the call.
     */
    private static void justGoes(int wide, String words, Consumer<EdgeOfCard> steps, ToLongFunction<EdgeOfCard> call) {
        for (int more = 0; more <= 1 && wide + more <= 60; more++) {
            EdgeOfCard x = read("l" + (wide + more) + ";" + words);
            steps.accept(x);
            int next = x.now(0);
            int known = x.count(4);
            due("LEFT of " + (wide + more), call.applyAsLong(x), more);
            due("now 2", x.now(2), more);
            due("the next PIECE is one on", x.now(0), next + 1);
            due("known", x.count(4), known + 1);
        }
        if (wide > 1) {
            Cases.changesNothing("on " + (wide - 1), x -> {
                Cases.tell(x, "l" + (wide - 1) + ";" + words);
                steps.accept(x);
            }, call, STATE);
        }
    }

    private static Consumer<EdgeOfCard> inSize(int size) {
        return x -> {
            if (size < 5) {
                due("smaller", x.smaller(size), 5);
            }
        };
    }

    // ---- WRITES

    private static void lettersTakeTheSize() {
        for (int size = 1; size <= 5; size++) {
            for (int letters = 1; letters <= 12; letters++) {
                justGoes(size * letters, word(letters), inSize(size), EdgeOfCard::writes);
            }
        }
    }

    private static void blankAhead() {
        for (int size = 1; size <= 5; size++) {
            int each = size;
            justGoes((2 + 1 + 3) * size, word(2) + word(3), x -> {
                inSize(each).accept(x);
                x.writes();
            }, EdgeOfCard::writes);
            // What was written in 5 stays so; the blank is in the lesser size already.
            justGoes(2 * 5 + (1 + 3) * size, word(2) + word(3), x -> {
                x.writes();
                inSize(each).accept(x);
            }, EdgeOfCard::writes);
        }
        // Two blanks by the third PIECE.
        justGoes(5 * 2, word(1) + word(1) + word(1), x -> {
            x.smaller(2);
            x.writes();
            x.writes();
        }, EdgeOfCard::writes);
    }

    private static void noBlankAhead() {
        justGoes(15, WORD + word(3), EdgeOfCard::omits, EdgeOfCard::writes);
        justGoes(15, word(3) + WORD, x -> {
            x.writes();
            x.undo();
        }, EdgeOfCard::writes);
        // A LINE that is left behind has what it has; the next one begins anew.
        EdgeOfCard x = read("l60;l15;" + word(1) + word(3));
        due("writes", x.writes(), 55);
        due("turnsOver", x.turnsOver(), 1);
        due("no blank", x.writes(), 0);
        EdgeOfCard y = read("l15;l14;" + word(3) + word(3));
        due("writes", y.writes(), 0);
        due("turnsOver", y.turnsOver(), 1);
        due("14 are one too few", y.writes(), STATE);
    }

    private static void blankBehindParts() {
        justGoes((2 + 1 + 3) * 5, "w9 0 99 2 0;" + word(3), EdgeOfCard::signs, EdgeOfCard::writes);
        justGoes((2 + 1 + 3) * 5, word(2) + "w9 0 99 3 0;", EdgeOfCard::writes, EdgeOfCard::signs);
        // 7 letters broken behind 3: 4 are on the next LINE.
        int wide = (4 + 1 + 2) * 5;
        for (int more = -1; more <= 1; more++) {
            EdgeOfCard x = read("l20;l" + (wide + more) + ";w7 0 99 0 3;" + word(2));
            due("breaks", x.breaks(), wide + more - 20);
            due("a blank behind the rest, " + more, x.writes(), more < 0 ? STATE : more);
        }
        EdgeOfCard y = read("l20;l20;w7 0 99 0 3;" + WORD);
        due("a rest that takes all", y.breaks(), 0);
        y.smaller(1);
        due("nothing is left", y.writes(), STATE);
    }

    private static void atFirst() {
        EdgeOfCard x = read("z2;l31;l7;" + WORD);
        due("next PIECE", x.now(0), 0);
        due("LINE", x.now(1), 0);
        due("LEFT", x.now(2), 31);
        due("SIZE", x.now(3), 5);
        due("SIZE with LEAST 5", read("z5;").now(3), 5);
    }

    private static void writesRefused() {
        refused("writes", EdgeOfCard::writes, "l60;", "l60;" + WORD, "w1 0 99 0 0;", "l4;l60;" + WORD);
        Cases.changesNothing("writes, all is written", Cases::full, EdgeOfCard::writes, STATE);
        // Where it does not go in this size, nothing but a lesser one or the next LINE helps.
        EdgeOfCard x = read("l14;l15;" + word(3));
        due("in 5", x.writes(), STATE);
        due("again", x.writes(), STATE);
        due("smaller", x.smaller(4), 5);
        due("in 4", x.writes(), 2);
        x.undo();
        x.undo();
        due("turnsOver", x.turnsOver(), 1);
        due("on the next LINE", x.writes(), 0);
    }

    /** No PIECE at all; none next; no LINE; it does not go on this LINE, though it would on the next. */
    private static void refused(String call, ToLongFunction<EdgeOfCard> asks, String noPiece, String onePiece,
        String noLine, String tooNarrow) {
        Cases.changesNothing(call + " of a new object", x -> { }, asks, STATE);
        Cases.changesNothing(call + " without PIECES", x -> Cases.tell(x, noPiece), asks, STATE);
        Cases.changesNothing(call + " behind the last", x -> {
            Cases.tell(x, onePiece);
            x.omits();
        }, asks, STATE);
        Cases.changesNothing(call + " without LINES", x -> Cases.tell(x, noLine), asks, STATE);
        Cases.changesNothing(call + " where it does not go", x -> Cases.tell(x, tooNarrow), asks, STATE);
    }

    // ---- its SIGN

    private static void signGoes() {
        for (int size = 1; size <= 5; size++) {
            for (int sign = 1; sign <= 12; sign++) {
                justGoes(size * sign, "w6 0 99 " + sign + " 0;", inSize(size), EdgeOfCard::signs);
            }
        }
        // The SIGN goes where the LETTERS don't, and the other way round.
        EdgeOfCard x = read("l5;w2 0 99 1 0;");
        due("writes", x.writes(), STATE);
        due("signs", x.signs(), 0);
        EdgeOfCard y = read("l5;w1 0 99 2 0;");
        due("signs", y.signs(), STATE);
        due("writes", y.writes(), 0);
        due("it is not OMITTED", y.now(4), 0);
    }

    private static void signsRefused() {
        refused("signs", EdgeOfCard::signs, "l60;", "l60;w1 0 99 1 0;", "w1 0 99 1 0;", "l4;l60;w1 0 99 1 0;");
        Cases.changesNothing("signs, SIGN 0", x -> Cases.tell(x, "l60;" + WORD), EdgeOfCard::signs, STATE);
        Cases.changesNothing("signs, SIGN 0, in the midst", Cases::inTheMidst, EdgeOfCard::signs, STATE);
        due("SIGN 1", read("l60;w1 0 99 1 0;").signs(), 55);
        due("the PIECE ahead had one", signsTwice("w1 0 99 1 0;" + WORD), STATE);
        due("the PIECE behind has one", read("l60;" + WORD + "w1 0 99 1 0;").signs(), STATE);
    }

    private static int signsTwice(String words) {
        EdgeOfCard x = read("l60;" + words);
        due("signs", x.signs(), 55);
        return x.signs();
    }

    // ---- BREAKS

    private static void firstPart() {
        for (int size = 1; size <= 5; size++) {
            for (int at = 1; at <= 11; at++) {
                int wide = (at + 1) * size;
                String words = "w12 0 99 0 " + at + ";";
                if (wide > 60) {
                    continue;
                }
                for (int more = 0; more <= 1 && wide + more <= 60; more++) {
                    EdgeOfCard x = Cases.readIn(size, "l" + (wide + more) + ";l60;" + words);
                    due("breaks behind " + at, x.breaks(), 60 - (12 - at) * size);
                    due("LINE", x.now(1), 1);
                    due("next PIECE", x.now(0), 1);
                }
                int narrow = wide - 1;
                int in = size;
                Cases.changesNothing("breaks on " + narrow, x -> {
                    Cases.tell(x, "l" + narrow + ";l60;" + words);
                    inSize(in).accept(x);
                }, EdgeOfCard::breaks, STATE);
            }
        }
        // With the blank: 1 of 5, then 1 + 2 + 1 of 5.
        due("with the blank", breaksSecond("l25;l60;"), 50);
        due("with the blank, one less", breaksSecond("l24;l60;"), STATE);
        due("with the blank, one more", breaksSecond("l26;l60;"), 50);
    }

    private static int breaksSecond(String lines) {
        EdgeOfCard x = read(lines + WORD + "w4 0 99 0 2;");
        x.writes();
        return x.breaks();
    }

    private static void rest() {
        for (int size = 1; size <= 5; size++) {
            for (int letters = 1; letters <= 11; letters++) {
                int wide = letters * size;
                // One letter and the stroke on LINE 0, the others on LINE 1: no stroke, no blank.
                String words = "w" + (letters + 1) + " 0 99 0 1;";
                for (int more = 0; more <= 1 && wide + more <= 60; more++) {
                    EdgeOfCard x = Cases.readIn(size, "l10;l" + (wide + more) + ";" + words);
                    due("the rest of " + letters, x.breaks(), more);
                    due("LEFT", x.now(2), more);
                }
                if (wide == 1) {
                    continue;
                }
                int in = size;
                Cases.changesNothing("breaks, a rest on " + (wide - 1), x -> {
                    Cases.tell(x, "l10;l" + (wide - 1) + ";l60;" + words);
                    inSize(in).accept(x);
                }, EdgeOfCard::breaks, STATE);
            }
        }
        due("what goes whole may be broken, too", read("l60;l60;w2 0 99 0 1;").breaks(), 55);
    }

    private static void breaksRefused() {
        String broken = "w6 0 99 0 3;";
        refused("breaks", EdgeOfCard::breaks, "l60;l60;", "l60;l60;" + broken, broken, "l19;l60;" + broken);
        Cases.changesNothing("breaks on the only LINE", x -> Cases.tell(x, "l60;" + broken), EdgeOfCard::breaks, STATE);
        Cases.changesNothing("breaks on the last LINE", x -> {
            Cases.tell(x, "l60;l60;" + broken);
            x.turnsOver();
        }, EdgeOfCard::breaks, STATE);
        Cases.changesNothing("breaks on the sixth LINE", x -> {
            Cases.tell(x, "l60;".repeat(6) + broken);
            for (int l = 1; l < 6; l++) {
                x.turnsOver();
            }
        }, EdgeOfCard::breaks, STATE);
        due("on the fifth", breaksOnTheFifth(broken), 45);
        Cases.changesNothing("BREAK 0", x -> Cases.tell(x, "l60;l60;w6 0 99 0 0;"), EdgeOfCard::breaks, STATE);
        Cases.changesNothing("neither part", x -> Cases.tell(x, "l19;l14;" + broken), EdgeOfCard::breaks, STATE);
        Cases.changesNothing("not the rest", x -> Cases.tell(x, "l20;l14;l60;" + broken), EdgeOfCard::breaks, STATE);
        due("both, just", read("l20;l15;" + broken).breaks(), 0);
    }

    private static int breaksOnTheFifth(String word) {
        EdgeOfCard x = read("l60;".repeat(6) + word);
        for (int l = 1; l < 5; l++) {
            x.turnsOver();
        }
        return x.breaks();
    }

    // ---- OMITS, SMALLER, TURNS

    private static void omitting() {
        EdgeOfCard x = read("l7;" + WORD.repeat(10));
        for (int i = 1; i <= 10; i++) {
            due("omits", x.omits(), i);
            due("bits", x.now(4), (1 << i) - 1);
            due("next PIECE", x.now(0), i);
            due("nothing is written", x.now(2), 7);
        }
        due("an eleventh", x.omits(), STATE);
        Cases.changesNothing("omits of a new object", y -> { }, EdgeOfCard::omits, STATE);
        Cases.changesNothing("omits without PIECES", y -> Cases.tell(y, "l9;"), EdgeOfCard::omits, STATE);
        Cases.changesNothing("omits behind the last", Cases::full, EdgeOfCard::omits, STATE);
        due("without LINES", read(WORD).omits(), 1);
        EdgeOfCard y = read("l60;" + WORD.repeat(3));
        due("omits", y.omits(), 1);
        due("writes", y.writes(), 55);
        due("those that were written don't count", y.omits(), 2);
        due("undo", y.undo(), 2);
        due("omits again", y.omits(), 2);
    }

    private static void allSizes() {
        for (int least = 1; least <= 5; least++) {
            for (int from = least; from <= 5; from++) {
                for (int size = -1; size <= 7; size++) {
                    EdgeOfCard x = Cases.readIn(from, "z" + least + ";");
                    int want = size < 1 || size > 5 ? BAD : size >= from || size < least ? STATE : from;
                    due("LEAST " + least + ", from " + from + " to " + size, x.smaller(size), want);
                    due("SIZE then", x.now(3), want == from ? size : from);
                }
            }
        }
    }

    private static void smallerRefused() {
        // In the midst it is 3, and LEAST is 2.
        int[] sizes = {Cases.LOWEST, -1, 0, 1, 3, 4, 5, 6, 7, 34, Cases.HIGHEST};
        int[] answers = {BAD, BAD, BAD, STATE, STATE, STATE, STATE, BAD, BAD, BAD, BAD};
        for (int i = 0; i < sizes.length; i++) {
            int size = sizes[i];
            Cases.changesNothing("smaller " + size, Cases::inTheMidst, x -> x.smaller(size), answers[i]);
        }
        Cases.changesNothing("LEAST again", Cases::full, x -> x.smaller(4), STATE);
        Cases.changesNothing("below LEAST", Cases::full, x -> x.smaller(3), STATE);
        Cases.changesNothing("5 of a new object", x -> { }, x -> x.smaller(5), STATE);
        due("4 of a new object", new EdgeOfCard().smaller(4), 5);
        due("1 of a new object", new EdgeOfCard().smaller(1), 5);
    }

    private static void turning() {
        EdgeOfCard x = read("l11;l12;l13;l14;l15;l16;" + WORD);
        due("writes", x.writes(), 6);
        for (int l = 1; l <= 5; l++) {
            due("turnsOver", x.turnsOver(), l);
            due("LINE", x.now(1), l);
            due("LEFT is all of it", x.now(2), 11 + l);
        }
        due("there is no seventh", x.turnsOver(), STATE);
        due("LINE", x.now(1), 5);
        Cases.changesNothing("turnsOver of a new object", y -> { }, EdgeOfCard::turnsOver, STATE);
        Cases.changesNothing("turnsOver without LINES", y -> Cases.tell(y, WORD), EdgeOfCard::turnsOver, STATE);
        Cases.changesNothing("turnsOver of one LINE", y -> Cases.tell(y, "l9;"), EdgeOfCard::turnsOver, STATE);
        due("of two", read("l9;l8;").turnsOver(), 1);
        Cases.changesNothing("turnsOver of the last", Cases::full, EdgeOfCard::turnsOver, STATE);
        Cases.changesNothing("turnsOver of the sixth", Cases::manySteps, EdgeOfCard::turnsOver, STATE);
    }

    // ---- UNDONE

    /** The i-th step of a card of six LINES, ten PIECES: ten are left out, then LINES are turned over. */
    private static void step(EdgeOfCard x, int i) {
        if (i < 10) {
            due("omits", x.omits(), i + 1);
        } else {
            due("turnsOver", x.turnsOver(), i - 9);
        }
    }

    private static void twelveKnown() {
        for (int steps = 0; steps <= 15; steps++) {
            EdgeOfCard x = read("l9;".repeat(6) + WORD.repeat(10));
            for (int i = 0; i < steps; i++) {
                step(x, i);
                due("known", x.count(4), Math.min(i + 1, 12));
            }
            int known = Math.min(steps, 12);
            for (int i = 1; i <= known; i++) {
                due("undo", x.undo(), known - i);
                due("next PIECE", x.now(0), Math.min(steps - i, 10));
                due("LINE", x.now(1), Math.max(steps - i - 10, 0));
            }
            due("no more of " + steps, x.undo(), STATE);
            due("older ones are lost", x.now(0), steps - known);
            // What was UNDONE makes room for others.
            step(x, steps - known);
            due("known", x.count(4), 1);
        }
        EdgeOfCard y = read("l9;".repeat(6) + WORD.repeat(10));
        for (int i = 0; i < 13; i++) {
            step(y, i);
        }
        due("undo of 13", y.undo(), 11);
        step(y, 12);
        due("12 again", y.count(4), 12);
        step(y, 13);
        due("12 still", y.count(4), 12);
    }

    private static void undoes(String call, ToLongFunction<EdgeOfCard> step) {
        Cases.leavesAsTwin("undo of " + call, WritingEdgesTest::allGoes, x -> {
            due(call + " goes", step.applyAsLong(x) >= 0 ? 1 : 0, 1);
            due("known", x.count(4), 3);
            due("undo", x.undo(), 2);
        }, x -> { });
    }

    private static void allGoes(EdgeOfCard x) {
        Cases.tell(x, "l50;l40;l30;" + WORD + "w4 3 99 2 1;w2 4 1 1 1;");
        x.smaller(4);
        x.writes();
        x.keep(1);
        x.saw(0, 0);
        x.mark(1, 2);
        Cases.typeAll(x, "l3;");
    }

    private static void asAhead() {
        undoes("writes", EdgeOfCard::writes);
        undoes("signs", EdgeOfCard::signs);
        undoes("breaks", EdgeOfCard::breaks);
        undoes("omits", EdgeOfCard::omits);
        undoes("smaller", x -> x.smaller(1));
        undoes("turnsOver", EdgeOfCard::turnsOver);
        // What comes between and is none of these is not UNDONE.
        EdgeOfCard x = read("l9;" + WORD);
        x.omits();
        x.saw(0, 0);
        x.mark(0, 0);
        x.type(';');
        x.keep(0);
        due("undo", x.undo(), 0);
        due("SEEN", x.count(3), 1);
        due("THE TRACE", x.trace(), 1);
        due("bytes", x.count(5), 1);
        due("IMAGE", x.back(0), 1);
    }

    private static void undoRefused() {
        Cases.changesNothing("undo of a new object", x -> { }, EdgeOfCard::undo, STATE);
        Cases.changesNothing("undo of nothing", x -> Cases.tell(x, "l9;" + WORD), EdgeOfCard::undo, STATE);
        Cases.changesNothing("undo behind the last", x -> {
            Cases.tell(x, "l9;" + WORD);
            x.omits();
            due("undo", x.undo(), 0);
        }, EdgeOfCard::undo, STATE);
        Cases.changesNothing("undo behind twelve", x -> {
            Cases.manySteps(x);
            for (int i = 11; i >= 0; i--) {
                due("undo", x.undo(), i);
            }
        }, EdgeOfCard::undo, STATE);
        EdgeOfCard x = read("l4;" + WORD);
        due("writes", x.writes(), STATE);
        due("smaller", x.smaller(5), STATE);
        due("turnsOver", x.turnsOver(), STATE);
        due("what was refused is not known", x.undo(), STATE);
    }

    // ---- now()

    private static void nows() {
        EdgeOfCard x = new EdgeOfCard();
        Cases.inTheMidst(x);
        int[] nows = {3, 1, 8, 3, 2, 1, 4};
        due("what -1", x.now(-1), BAD);
        for (int what = 0; what < nows.length; what++) {
            due("what " + what, x.now(what), nows[what]);
        }
        due("what 7", x.now(7), BAD);
        Cases.changesNothing("now", Cases::inTheMidst, y -> y.now(2), 8);
    }

    private static void withoutLines() {
        due("a new object", new EdgeOfCard().now(2), 0);
        EdgeOfCard x = read(WORD + "z2;");
        due("PIECES alone", x.now(2), 0);
        x.omits();
        due("behind omits", x.now(2), 0);
        due("LINE", x.now(1), 0);
        due("one LINE", read("l1;").now(2), 1);
        due("the LINES are gone", Cases.tell(read("l9;"), WORD).now(2), 0);
    }

    private static void asFarAsOneCame() {
        EdgeOfCard x = read("l60;" + "w1 9 99 1 0;".repeat(10));
        x.smaller(1);
        for (int i = 0; i < 10; i++) {
            due("as far as one came", x.now(5), (1 << i) - 1);
            due("their WORTH", x.now(6), 9 * i);
            due("goes", (i % 2 == 0 ? x.writes() : x.signs()) >= 0 ? 1 : 0, 1);
        }
        due("all", x.now(5), 1023);
        due("their WORTH", x.now(6), 90);
        EdgeOfCard y = read("l9;w1 9 99 0 0;w1 8 99 0 0;");
        y.omits();
        due("OMITTED", y.now(5), 0);
        due("WORTH", y.now(6), 0);
        due("the other", y.writes(), 4);
        due("sense", y.now(5), 2);
        due("WORTH", y.now(6), 8);
        EdgeOfCard z = read("l15;l9;w3 7 99 0 2;");
        due("broken", z.breaks(), 4);
        due("a broken one makes sense", z.now(5), 1);
        due("WORTH 0", read("w1 0 99 0 0;").now(6), 0);
    }

    private static void needsAndTheirs() {
        // Each PIECE needs the one ahead: what is left out takes all behind it along.
        StringBuilder chain = new StringBuilder("l60;w1 1 99 0 0;");
        for (int w = 1; w < 10; w++) {
            chain.append("w1 1 ").append(w - 1).append(" 0 0;");
        }
        for (int left = 0; left < 10; left++) {
            EdgeOfCard x = read(chain.toString());
            x.smaller(1);
            for (int w = 0; w < 10; w++) {
                due("goes", (w == left ? x.omits() : x.writes()) >= 0 ? 1 : 0, 1);
            }
            due("without " + left, x.now(5), (1 << left) - 1);
            due("WORTH", x.now(6), left);
        }
        // Who needs an OMITTED one makes no sense, who needs nothing does; two may need the same.
        EdgeOfCard y = read("l60;w1 1 99 0 0;w1 2 0 0 0;w1 4 0 0 0;w1 8 99 0 0;");
        y.omits();
        y.writes();
        y.writes();
        y.writes();
        due("sense", y.now(5), 8);
        due("WORTH", y.now(6), 8);
    }
}
