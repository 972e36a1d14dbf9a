import java.util.function.ToLongFunction;

/** The edges of FILL and of what is asked of it: promises 15 to 21, sentence by sentence. */
public final class SizesEdgesTest {
    private static final int BAD = Cases.BAD, NONE = Cases.NONE;
    private static final String WORD = Cases.WORD;

    public static void main(String[] args) {
        Cases.says("sizes are LEAST .. 5; 15: BAD (a size below LEAST)", SizesEdgesTest::leastToFive);
        Cases.says("From the beginning, PIECES as they are; nothing is changed.", SizesEdgesTest::nothingIsChanged);
        Cases.says("15: FILL: LAST (what = 0), SPARE (1). BAD", SizesEdgesTest::fillWhat);
        Cases.says("15: BAD (bits of none, too)", SizesEdgesTest::bitsOfNone);
        Cases.says("FILL: on the LINE of the one ahead, if it goes (with the blank)", SizesEdgesTest::justOnTheLine);
        Cases.says("FILL: else at the beginning of the next one", SizesEdgesTest::onTheNextLine);
        Cases.says("FILL: that is WIDE enough (LINES between stay empty)", SizesEdgesTest::linesBetween);
        Cases.says("LAST: NONE: there is none, or not all go ON; SPARE", SizesEdgesTest::fillOfNone);
        Cases.says("16: GREATEST: the greatest size by which all PIECES go ON", SizesEdgesTest::greatestSizes);
        Cases.says("16: NONE", SizesEdgesTest::greatestNone);
        Cases.says("17: EVEN: COST (l = -1), the size of a LINE. BAD.", SizesEdgesTest::evenLines);
        Cases.says("EVEN: with the least COST, of several the greatest", SizesEdgesTest::evenSizes);
        Cases.says("17: NONE. BAD.", SizesEdgesTest::evenNone);
        Cases.says("18: KEPT: WORTH (what = 0), the set (1). BAD.", SizesEdgesTest::keptWhat);
        Cases.says("KEPT: all go ON", SizesEdgesTest::keptJustGoesOn);
        Cases.says("KEPT: that each have their NEEDS in the set", SizesEdgesTest::keptNeeds);
        Cases.says("KEPT: most WORTH, fewest LETTERS together, the least bits", SizesEdgesTest::keptOfSeveral);
        Cases.says("19: TELEGRAM for m (0 .. 10) PIECES. BAD.", SizesEdgesTest::telegramMany);
        Cases.says("TELEGRAM: likewise, m PIECES at most (no LINES)", SizesEdgesTest::telegramLikewise);
        Cases.says("20: BEGUN so far (0 .. 60) on LINE 0. BAD.", SizesEdgesTest::begunFar);
        Cases.says("BEGUN: that much of it is lost", SizesEdgesTest::begunLost);
        Cases.says("BEGUN: how many PIECES from the first on, one behind another", SizesEdgesTest::begunFromTheFirst);
        Cases.says("21: ODDS (size, x 0 .. 10): upper (what = 0), lower number (1). BAD.", SizesEdgesTest::oddsWhat);
        Cases.says("ODDS: becomes 2 LETTERS longer", SizesEdgesTest::twoLonger);
        Cases.says("ODDS: of the first 9 PIECES at most (all others are not)", SizesEdgesTest::firstNine);
        Cases.says("21: in least terms", SizesEdgesTest::leastTerms);
        Cases.end("SizesEdgesTest");
    }

    private static void due(String call, long got, long want) {
        Cases.due(call, got, want);
    }

    private static EdgeOfCard read(String text) {
        return Cases.read(text);
    }

    private static String word(int letters) {
        return "w" + letters + " 0 99 0 0;";
    }

    private static void filled(EdgeOfCard x, int size, int words, int last, int spare) {
        String call = "fill " + size + ", " + words;
        due(call + ": LAST", x.fill(size, words, 0), last);
        due(call + ": SPARE", x.fill(size, words, 1), spare);
    }

    private static void keeps(EdgeOfCard x, int size, int worth, int set) {
        due("kept " + size + ": WORTH", x.kept(size, 0), worth);
        due("kept " + size + ": the set", x.kept(size, 1), set);
    }

    private static void fraction(EdgeOfCard x, int size, int in10, long upper, long lower) {
        String call = "odds " + size + ", " + in10;
        due(call + ": upper", x.odds(size, in10, 0), upper);
        due(call + ": lower", x.odds(size, in10, 1), lower);
    }

    // ---- of all

    private static void leastToFive() {
        for (int least = 1; least <= 5; least++) {
            EdgeOfCard x = read("z" + least + ";l60;" + WORD);
            for (int size = -1; size <= 7; size++) {
                boolean is = size >= least && size <= 5;
                String call = "LEAST " + least + ", size " + size;
                due(call + ": LAST", x.fill(size, 1, 0), is ? 0 : BAD);
                due(call + ": SPARE", x.fill(size, 1, 1), is ? 60 - size : BAD);
                due(call + ": fill of no words", x.fill(size, 0, 0), is ? NONE : BAD);
                due(call + ": kept", x.kept(size, 0), is ? 0 : BAD);
                due(call + ": begun", x.begun(size, 0), is ? 1 : BAD);
                due(call + ": odds", x.odds(size, 5, 1), is ? 1 : BAD);
            }
            due("sizes", x.sizes(), 64 - (1 << least));
        }
    }

    private static void asked(String call, ToLongFunction<EdgeOfCard> asks, long answer) {
        Cases.changesNothing(call, Cases::inTheMidst, asks, answer);
    }

    private static void nothingIsChanged() {
        // In 2: 6, 2 + 4, 2 + 8, 2 + 2 and 2 + 4 on 30, 20, 9: 26 of LINE 0, 8 of LINE 1.
        asked("LAST", x -> x.fill(2, 31, 0), 1);
        asked("SPARE", x -> x.fill(2, 31, 1), 16);
        asked("greatest", EdgeOfCard::greatest, 3);
        asked("even -1", x -> x.even(-1), 0);
        asked("even 2", x -> x.even(2), 3);
        asked("kept", x -> x.kept(2, 1), 31);
        asked("telegram", x -> x.telegram(3, 1), 11);
        asked("begun", x -> x.begun(2, 1), 5);
        asked("odds", x -> x.odds(2, 0, 0), 1);
        asked("sizes", EdgeOfCard::sizes, 12);
        asked("two", x -> x.two(1), 3);
        // PIECES as they are: what was OMITTED counts, a SIGN or a BREAK doesn't help, and the SIZE is the asked one.
        EdgeOfCard x = read("l10;l9;w3 1 99 1 1;");
        x.omits();
        x.turnsOver();
        x.smaller(1);
        filled(x, 3, 1, 0, 1);
        filled(x, 4, 1, NONE, NONE);
        due("greatest", x.greatest(), 3);
        keeps(x, 3, 1, 1);
        due("telegram", x.telegram(1, 1), 1);
        due("begun", x.begun(3, 1), 1);
    }

    // ---- FILL

    private static void fillWhat() {
        EdgeOfCard x = read("l60;l7;" + word(3));
        due("what -1", x.fill(1, 1, -1), BAD);
        due("what 0", x.fill(1, 1, 0), 0);
        due("what 1", x.fill(1, 1, 1), 57);
        due("what 2", x.fill(1, 1, 2), BAD);
        due("BAD, though there is none", x.fill(1, 0, 2), BAD);
        due("BAD, though not all go ON", read(WORD).fill(1, 1, -1), BAD);
    }

    private static void bitsOfNone() {
        for (int pieces = 0; pieces <= 10; pieces++) {
            EdgeOfCard x = read("l60;" + WORD.repeat(pieces));
            int all = (1 << pieces) - 1;
            due("-1", x.fill(1, -1, 0), BAD);
            due("0", x.fill(1, 0, 0), NONE);
            due("all of " + pieces, x.fill(1, all, 1), pieces == 0 ? NONE : 60 - (2 * pieces - 1));
            due("one bit more", x.fill(1, all + 1, 0), BAD);
            due("all and one bit more", x.fill(1, 2 * all + 1, 0), BAD);
            due("all and the highest bit", x.fill(1, all | Cases.LOWEST, 0), BAD);
            due("highest", x.fill(1, Cases.HIGHEST, 0), BAD);
        }
    }

    private static void justOnTheLine() {
        for (int size = 1; size <= 5; size++) {
            int one = 4 * size;
            filled(read("l" + one + ";" + word(4)), size, 1, 0, 0);
            filled(read("l" + (one + 1) + ";" + word(4)), size, 1, 0, 1);
            filled(read("l" + (one - 1) + ";" + word(4)), size, 1, NONE, NONE);
            int both = (4 + 1 + 2) * size;
            String words = word(4) + word(2);
            filled(read("l" + both + ";" + words), size, 3, 0, 0);
            filled(read("l" + (both + 1) + ";" + words), size, 3, 0, 1);
            filled(read("l" + (both - 1) + ";" + words), size, 3, NONE, NONE);
            // A PIECE that is not in the set takes nothing, no blank either.
            filled(read("l" + both + ";" + word(4) + word(12) + word(2)), size, 5, 0, 0);
            filled(read("l" + 2 * size + ";" + words), size, 2, 0, 0);
        }
        filled(read("l60;" + word(12)), 5, 1, 0, 0);
        filled(read("l59;" + word(12)), 5, 1, NONE, NONE);
    }

    private static void onTheNextLine() {
        for (int size = 1; size <= 5; size++) {
            int both = (4 + 1 + 2) * size;
            String words = word(4) + word(2);
            filled(read("l" + both + ";l60;" + words), size, 3, 0, 0);
            // No blank at the beginning of the next one.
            filled(read("l" + (both - 1) + ";l" + 2 * size + ";" + words), size, 3, 1, 0);
            filled(read("l" + (both - 1) + ";l" + (2 * size + 1) + ";" + words), size, 3, 1, 1);
            filled(read("l" + (both - 1) + ";l" + (2 * size - 1) + ";" + words), size, 3, NONE, NONE);
            // Nor for the first PIECE, if LINE 0 is not WIDE enough.
            filled(read("l" + (4 * size - 1) + ";l" + both + ";" + words), size, 3, 1, 0);
            filled(read("l" + (4 * size - 1) + ";l" + (both - 1) + ";" + words), size, 3, NONE, NONE);
        }
        // As many LINES as there may be, a PIECE on each.
        filled(read("l5;".repeat(6) + WORD.repeat(6)), 5, 63, 5, 0);
        filled(read("l5;".repeat(6) + WORD.repeat(7)), 5, 127, NONE, NONE);
        filled(read("l5;".repeat(5) + WORD.repeat(6)), 5, 63, NONE, NONE);
    }

    private static void linesBetween() {
        // In 5: 10 on LINE 0, 15 on LINE 2; 5 would go on LINE 1, but that is behind one.
        String words = word(2) + word(3) + word(1);
        filled(read("l10;l5;l15;" + words), 5, 7, NONE, NONE);
        filled(read("l10;l5;l15;l4;" + words), 5, 7, NONE, NONE);
        filled(read("l10;l5;l15;l5;" + words), 5, 7, 3, 0);
        filled(read("l10;l14;l15;l5;" + words), 5, 3, 2, 0);
        filled(read("l10;l15;l15;l5;" + words), 5, 3, 1, 0);
        filled(read("l10;l14;l14;l14;l14;l15;" + words), 5, 3, 5, 0);
        filled(read("l9;l9;l9;l9;l9;l10;" + words), 5, 1, 5, 0);
        filled(read("l9;l9;l9;l9;l9;l9;" + words), 5, 1, NONE, NONE);
    }

    private static void fillOfNone() {
        EdgeOfCard x = read("l9;" + WORD);
        filled(x, 5, 0, NONE, NONE);
        filled(x, 5, 1, 0, 4);
        filled(read(WORD), 1, 1, NONE, NONE);
        filled(read(WORD), 1, 0, NONE, NONE);
        filled(read("l9;"), 1, 0, NONE, NONE);
        // The last one goes, the first doesn't; the first goes, the last doesn't.
        EdgeOfCard y = read("l10;" + word(3) + word(1) + word(12));
        filled(y, 5, 3, NONE, NONE);
        filled(y, 5, 2, 0, 5);
        filled(y, 5, 6, NONE, NONE);
        filled(y, 5, 7, NONE, NONE);
    }

    // ---- GREATEST, EVEN

    private static void greatestSizes() {
        for (int size = 1; size <= 5; size++) {
            for (int letters = 2; letters <= 12; letters++) {
                int wide = letters * size;
                due("just", read("l" + wide + ";" + word(letters)).greatest(), size);
                due("one less", read("l" + (wide - 1) + ";" + word(letters)).greatest(), size == 1 ? NONE : size - 1);
                if (wide < 60) {
                    due("one more", read("l" + (wide + 1) + ";" + word(letters)).greatest(), size);
                }
            }
            due("with the blank", read("l" + 7 * size + ";" + word(4) + word(2)).greatest(), size);
        }
        due("on two LINES", read("l10;l10;" + word(2) + word(2)).greatest(), 5);
        due("on two LINES, one less", read("l10;l9;" + word(2) + word(2)).greatest(), 4);
    }

    private static void greatestNone() {
        for (int least = 1; least <= 5; least++) {
            String text = "z" + least + ";" + word(3);
            due("LEAST goes", read(text + "l" + 3 * least + ";").greatest(), least);
            due("below LEAST", read(text + "l" + (3 * least - 1) + ";").greatest(), NONE);
            due("no LINES", read(text).greatest(), NONE);
        }
        due("no PIECES", read("l1;").greatest(), 5);
        due("no PIECES, no LINES", read("").greatest(), 5);
        due("no PIECES, LEAST 5", read("z5;").greatest(), 5);
    }

    private static void evenLines() {
        for (int lines = 0; lines <= 6; lines++) {
            EdgeOfCard x = read("l3;".repeat(lines) + (lines == 0 ? "" : WORD));
            due("-2", x.even(-2), BAD);
            due("-1", x.even(-1), 0);
            for (int l = 0; l < lines; l++) {
                due("LINE " + l, x.even(l), 3);
            }
            due("behind the last", x.even(lines), BAD);
            due("lowest", x.even(Cases.LOWEST), BAD);
            due("highest", x.even(Cases.HIGHEST), BAD);
        }
    }

    private static void evenly(String text, int size) {
        EdgeOfCard x = read(text);
        due("COST", x.even(-1), size == NONE ? NONE : 0);
        for (int l = 0; l < x.count(0); l++) {
            due("LINE " + l + " of '" + text + "'", x.even(l), size);
        }
    }

    private static void evenSizes() {
        // 5 would go on LINE 0, but only 4 on LINE 1: that is a step.
        evenly("l5;l4;" + WORD.repeat(2), 4);
        evenly("l5;l5;" + WORD.repeat(2), 5);
        evenly("l5;l1;" + WORD.repeat(2), 1);
        // LINES that stay empty are of that size, too.
        evenly("l4;l60;l60;" + word(1), 5);
        evenly("l4;l3;l2;" + word(1), 4);
        evenly("l3;l4;l2;" + word(1), 4);
        evenly("l60;l1;l1;l1;l1;l1;" + word(12), 5);
        evenly("l59;l1;l1;l1;l1;l1;" + word(12), 4);
        evenly("l1;l1;", 5);
        evenly("z4;l4;l4;" + WORD, 4);
    }

    private static void evenNone() {
        evenly("l2;l2;" + word(3), NONE);
        evenly("z4;l3;l3;" + WORD, NONE);
        EdgeOfCard x = read("l2;l2;" + word(3));
        due("BAD, though there is none", x.even(2), BAD);
        due("BAD, though there is none", x.even(-2), BAD);
        due("no LINES", read(WORD).even(-1), NONE);
        due("no LINES, LINE 0", read(WORD).even(0), BAD);
        due("neither", read("").even(-1), 0);
    }

    // ---- KEPT, TELEGRAM

    private static void keptWhat() {
        EdgeOfCard x = read("l60;w1 7 99 0 0;");
        due("what -1", x.kept(1, -1), BAD);
        due("what 0", x.kept(1, 0), 7);
        due("what 1", x.kept(1, 1), 1);
        due("what 2", x.kept(1, 2), BAD);
        keeps(read(""), 1, 0, 0);
        keeps(read("l9;"), 1, 0, 0);
        keeps(read("w1 9 99 0 0;"), 1, 0, 0);
        keeps(read("l60;" + "w1 9 99 0 0;".repeat(10)), 1, 90, 1023);
    }

    private static void keptJustGoesOn() {
        // In size: 2 + 1 + 3 on LINE 0, then 1 on LINE 1.
        String words = "w2 4 99 0 0;w3 5 99 0 0;w1 1 99 0 0;";
        for (int size = 1; size <= 5; size++) {
            int wide = 6 * size;
            keeps(read("l" + wide + ";l" + size + ";" + words), size, 10, 7);
            keeps(read("l" + wide + ";" + words), size, 9, 3);
            keeps(read("l" + (wide - 1) + ";" + words), size, 6, 6);
            keeps(read("l" + (3 * size) + ";" + words), size, 5, 2);
            keeps(read("l" + (3 * size) + ";l" + 2 * size + ";" + words), size, 6, 6);
            if (size > 1) {
                keeps(read("l" + (size - 1) + ";" + words), size, 0, 0);
            }
        }
    }

    private static void keptNeeds() {
        String words = "w4 0 99 0 0;w1 0 0 0 0;w1 9 1 0 0;";
        // 4 + 1 + 1 + 1 + 1: what it needs, and what that needs, must go, too.
        keeps(read("l8;" + words), 1, 9, 7);
        keeps(read("l7;" + words), 1, 0, 0);
        keeps(read("l9;" + words), 1, 9, 7);
        keeps(read("l7;" + words + "w2 1 99 0 0;"), 1, 1, 8);
        // What is needed comes without who needs it.
        keeps(read("l1;w1 2 99 0 0;w1 9 0 0 0;"), 1, 2, 1);
        keeps(read("l3;w1 2 99 0 0;w1 9 0 0 0;"), 1, 11, 3);
    }

    private static void keptOfSeveral() {
        String words = "w3 5 99 0 0;w1 5 99 0 0;w1 5 99 0 0;";
        keeps(read("l1;" + words), 1, 5, 2);
        keeps(read("l2;" + words), 1, 5, 2);
        keeps(read("l3;" + words), 1, 10, 6);
        keeps(read("l5;" + words), 1, 10, 6);
        keeps(read("l6;" + words), 1, 10, 6);
        keeps(read("l7;" + words), 1, 15, 7);
        // One WORTH more counts above any LETTERS, one letter less above the bits.
        keeps(read("l12;w12 9 99 0 0;w1 8 99 0 0;"), 1, 9, 1);
        keeps(read("l12;w12 8 99 0 0;w11 8 99 0 0;"), 1, 8, 2);
        keeps(read("l12;w12 8 99 0 0;w12 8 99 0 0;"), 1, 8, 1);
        // PIECES of no WORTH have LETTERS all the same.
        keeps(read("l60;w1 0 99 0 0;w1 1 99 0 0;w1 0 99 0 0;"), 1, 1, 2);
        // The least bits: 0 and 1 (3) are less than 2 (4); 1 and 2 (6) less than 0 and 3 (9).
        keeps(read("l3;w1 2 99 0 0;w1 2 99 0 0;w2 4 99 0 0;"), 1, 4, 3);
        keeps(read("l3;w1 1 99 0 0;w1 1 99 0 0;"), 1, 2, 3);
        keeps(read("l8;w5 5 99 0 0;w4 4 99 0 0;w3 3 99 0 0;w2 2 99 0 0;"), 1, 7, 6);
    }

    private static void telegramMany() {
        EdgeOfCard x = read("w1 1 99 0 0;".repeat(10));
        due("-1", x.telegram(-1, 0), BAD);
        for (int m = 0; m <= 10; m++) {
            due("WORTH for " + m, x.telegram(m, 0), m);
            due("the set for " + m, x.telegram(m, 1), (1 << m) - 1);
        }
        due("11", x.telegram(11, 0), BAD);
        due("what -1", x.telegram(3, -1), BAD);
        due("what 2", x.telegram(3, 2), BAD);
        EdgeOfCard y = read("w3 4 99 0 0;");
        due("0 of one", y.telegram(0, 0), 0);
        due("1 of one", y.telegram(1, 0), 4);
        due("10 of one", y.telegram(10, 0), 4);
        due("11 of one", y.telegram(11, 0), BAD);
        due("10 of none", read("").telegram(10, 1), 0);
        due("11 of none", read("").telegram(11, 1), BAD);
    }

    private static void telegramLikewise() {
        // No LINES: neither WIDE nor LEAST matters.
        due("no LINES", read("w12 9 99 0 0;").telegram(1, 1), 1);
        due("a narrow LINE", read("z5;l1;w12 9 99 0 0;").telegram(1, 1), 1);
        EdgeOfCard chain = read("w1 0 99 0 0;w1 0 0 0 0;w1 0 1 0 0;w1 9 2 0 0;");
        int[] sets = {0, 0, 0, 0, 15, 15};
        for (int m = 0; m < sets.length; m++) {
            due("NEEDS, " + m, chain.telegram(m, 1), sets[m]);
            due("WORTH, " + m, chain.telegram(m, 0), sets[m] == 0 ? 0 : 9);
        }
        EdgeOfCard several = read("w3 5 99 0 0;w2 5 99 0 0;w2 5 99 0 0;w4 6 99 0 0;w1 0 99 0 0;");
        int[] best = {0, 8, 10, 14, 15, 15};
        int[] worth = {0, 6, 11, 16, 21, 21};
        for (int m = 0; m < best.length; m++) {
            due("the set, " + m, several.telegram(m, 1), best[m]);
            due("WORTH, " + m, several.telegram(m, 0), worth[m]);
        }
    }

    // ---- BEGUN

    private static void begunFar() {
        EdgeOfCard x = read("l60;" + WORD);
        due("-1", x.begun(1, -1), BAD);
        due("0", x.begun(1, 0), 1);
        due("1", x.begun(1, 1), 1);
        due("59", x.begun(1, 59), 1);
        due("60", x.begun(1, 60), 0);
        due("61", x.begun(1, 61), BAD);
        due("lowest", x.begun(1, Cases.LOWEST), BAD);
        due("highest", x.begun(1, Cases.HIGHEST), BAD);
        due("BAD without PIECES, too", read("").begun(1, 61), BAD);
        due("60 without LINES", read(WORD).begun(1, 60), 0);
        due("60 without PIECES", read("l9;").begun(1, 60), 0);
    }

    private static void begunLost() {
        for (int size = 1; size <= 5; size++) {
            // 2, and 1 + 3 with the blank, on what is left of 31.
            EdgeOfCard x = read("l31;" + word(2) + word(3));
            int first = 31 - 2 * size;
            int both = 31 - 6 * size;
            due("both, just", x.begun(size, both), 2);
            due("both, one less lost", x.begun(size, Math.max(both - 1, 0)), 2);
            due("both, one more lost", x.begun(size, both + 1), 1);
            due("the first, just", x.begun(size, first), 1);
            due("the first, one more lost", x.begun(size, first + 1), 0);
            // The next LINES are whole.
            EdgeOfCard y = read("l31;l" + 2 * size + ";l" + 3 * size + ";" + word(2) + word(3));
            due("all of LINE 0 lost", y.begun(size, 31), 2);
            due("more than all of it", y.begun(size, 32), 2);
            due("60", y.begun(size, 60), 2);
            due("the second on the next but one", y.begun(size, both + 1), 2);
            EdgeOfCard z = read("l31;l" + (2 * size - 1) + ";" + word(2) + word(3));
            due("the first goes nowhere", z.begun(size, first + 1), 0);
        }
    }

    private static void begunFromTheFirst() {
        due("none", read("").begun(1, 0), 0);
        EdgeOfCard x = read("l10;" + word(12) + WORD);
        due("the first does not go, the second would", x.begun(1, 0), 0);
        EdgeOfCard y = read("l10;" + WORD + word(12) + WORD);
        due("the second does not go, the third would", y.begun(1, 0), 1);
        due("all ten", read("l19;" + WORD.repeat(10)).begun(1, 0), 10);
        due("nine of ten", read("l19;" + WORD.repeat(10)).begun(1, 1), 9);
        due("on other LINES, too", read("l5;".repeat(6) + WORD.repeat(10)).begun(5, 0), 6);
        due("LINES between stay empty", read("l10;l5;l15;" + word(2) + word(3) + word(1)).begun(5, 0), 2);
    }

    // ---- ODDS

    private static void oddsWhat() {
        EdgeOfCard x = read("l1;" + WORD);
        due("x -1", x.odds(1, -1, 0), BAD);
        due("x 0", x.odds(1, 0, 0), 1);
        due("x 1", x.odds(1, 1, 0), 9);
        due("x 9", x.odds(1, 9, 0), 1);
        due("x 10", x.odds(1, 10, 0), 0);
        due("x 11", x.odds(1, 11, 0), BAD);
        due("what -1", x.odds(1, 1, -1), BAD);
        due("what 1", x.odds(1, 1, 1), 10);
        due("what 2", x.odds(1, 1, 2), BAD);
        due("BAD without PIECES, too", read("").odds(1, 11, 0), BAD);
        fraction(read(""), 1, 5, 1, 1);
        fraction(read("l9;"), 5, 10, 1, 1);
        fraction(read(WORD), 1, 5, 0, 1);
    }

    private static void twoLonger() {
        for (int size = 1; size <= 5; size++) {
            String words = word(4);
            fraction(read("l" + 6 * size + ";" + words), size, 3, 1, 1);
            fraction(read("l" + (6 * size - 1) + ";" + words), size, 3, 7, 10);
            fraction(read("l" + (6 * size + 1) + ";" + words), size, 3, 1, 1);
            fraction(read("l" + 4 * size + ";" + words), size, 3, 7, 10);
            fraction(read("l" + (4 * size - 1) + ";" + words), size, 3, 0, 1);
        }
        // Twelve LETTERS become fourteen.
        fraction(read("l14;" + word(12)), 1, 10, 1, 1);
        fraction(read("l13;" + word(12)), 1, 10, 0, 1);
        fraction(read("l60;" + word(12)), 5, 10, 0, 1);
        fraction(read("l60;" + word(12)), 4, 10, 1, 1);
        // Each for itself: 1 + 1 + 1 are 3, each longer one is 2 more.
        fraction(read("l3;" + WORD.repeat(2)), 1, 1, 81, 100);
        fraction(read("l4;" + WORD.repeat(2)), 1, 1, 81, 100);
        fraction(read("l5;" + WORD.repeat(2)), 1, 1, 99, 100);
        fraction(read("l6;" + WORD.repeat(2)), 1, 1, 99, 100);
        fraction(read("l7;" + WORD.repeat(2)), 1, 1, 1, 1);
        // On two LINES: none may be longer; the first may; both may.
        fraction(read("l2;l1;" + WORD.repeat(2)), 1, 1, 81, 100);
        fraction(read("l3;l1;" + WORD.repeat(2)), 1, 1, 9, 10);
        fraction(read("l3;l2;" + WORD.repeat(2)), 1, 1, 9, 10);
        fraction(read("l3;l3;" + WORD.repeat(2)), 1, 1, 1, 1);
    }

    private static void firstNine() {
        for (int pieces = 1; pieces <= 10; pieces++) {
            // All of 1 letter: no place is left for one that is longer.
            EdgeOfCard x = read("l" + (2 * pieces - 1) + ";" + WORD.repeat(pieces));
            int open = Math.min(pieces, 9);
            fraction(x, 1, 9, 1, (long) Math.pow(10, open));
            // Place for all that may be longer, and one less.
            int longest = 2 * pieces - 1 + 2 * open;
            fraction(read("l" + longest + ";" + WORD.repeat(pieces)), 1, 10, 1, 1);
            fraction(read("l" + (longest - 1) + ";" + WORD.repeat(pieces)), 1, 10, 0, 1);
        }
        // The ninth becomes longer, the tenth doesn't: each alone on LINE 1, all ahead of it just on LINE 0.
        fraction(read("l31;l3;" + WORD.repeat(9)), 1, 10, 1, 1);
        fraction(read("l31;l2;" + WORD.repeat(9)), 1, 10, 0, 1);
        fraction(read("l35;l1;" + WORD.repeat(10)), 1, 10, 1, 1);
    }

    private static void leastTerms() {
        // One PIECE that goes on if it is not longer: 10 - x in 10.
        long[] upper = {1, 9, 4, 7, 3, 1, 2, 3, 1, 1, 0};
        long[] lower = {1, 10, 5, 10, 5, 2, 5, 10, 5, 10, 1};
        EdgeOfCard x = read("l1;" + WORD);
        for (int in10 = 0; in10 <= 10; in10++) {
            fraction(x, 1, in10, upper[in10], lower[in10]);
        }
        EdgeOfCard nine = read("l17;" + WORD.repeat(9));
        fraction(nine, 1, 0, 1, 1);
        fraction(nine, 1, 1, 387420489L, 1000000000L);
        fraction(nine, 1, 3, 40353607L, 1000000000L);
        fraction(nine, 1, 5, 1, 512);
        fraction(nine, 1, 8, 1, 1953125);
        fraction(nine, 1, 9, 1, 1000000000L);
        fraction(nine, 1, 10, 0, 1);
        // At most one of nine is longer: (5 + 45) / 5 of 1 in 512 is 10 in 512.
        fraction(read("l19;" + WORD.repeat(9)), 1, 5, 5, 256);
    }
}
