/** The edges of a hand read back, of kinds and of images: promises 22 to 30, sentence by sentence. */
public final class HandEdgesTest {
    private static final int BAD = Cases.BAD, STATE = Cases.STATE, FULL = Cases.FULL, NO = Cases.NO;
    private static final String WORD = Cases.WORD;
    /** What a mark() of each KIND adds to THE TRACE: its own body and those above it. */
    private static final long[] TRACES = {1, 11, 101, 1011, 10101, 100001};

    public static void main(String[] args) {
        Cases.says("22: SEEN: how much there is. BAD", HandEdgesTest::sawPiecesAndLines);
        Cases.says("SEEN (6 at most); 22: FULL", HandEdgesTest::sixSeen);
        Cases.says("22: the first of these: BAD, FULL", HandEdgesTest::badAheadOfFull);
        Cases.says("23: Nothing was SEEN: how much there was.", HandEdgesTest::forgetting);
        Cases.says("SIZES: those by which FILL has all that was SEEN so (bits)", HandEdgesTest::sizesAsSeen);
        Cases.says("SIZES: FILL of all PIECES (all of them ON)", HandEdgesTest::sizesAllOn);
        Cases.says("TWO: PIECES from i (0 .. how many) on. BAD.", HandEdgesTest::twoFrom);
        Cases.says("TWO: how many need one of the first (NEEDS, and theirs)", HandEdgesTest::twoNeeds);
        Cases.says("KINDS 0 .. 5; 26: NO: BAD.", HandEdgesTest::kinds);
        Cases.says("MARK: PIECE its LETTERS, .. KISS up, and the SIZE", HandEdgesTest::leastAndMostMarks);
        Cases.says("MARGIN: the LINE where one writes; KISS: the SIZE", HandEdgesTest::marksOfNow);
        Cases.says("numbers in brackets come to THE TRACE as often as mark() asks", HandEdgesTest::traces);
        Cases.says("IMAGES 0, 1; 27: the next PIECE. BAD.", HandEdgesTest::keeping);
        Cases.says("28: BAD; STATE: none was kept.", HandEdgesTest::backRefused);
        Cases.says("28: All of that becomes as an IMAGE has it: the next PIECE.", HandEdgesTest::asAnImageHasIt);
        Cases.says("IMAGES keep NOW; nothing else", HandEdgesTest::nothingElse);
        Cases.says("IMAGES keep what may be UNDONE", HandEdgesTest::imagesKeepThePast);
        Cases.says("Read anew: IMAGES are gone", HandEdgesTest::imagesGone);
        Cases.says("29: 0 LINES, .. 5 bytes of THE TEXT. BAD.", HandEdgesTest::counts);
        Cases.says("30: THE TRACE.", HandEdgesTest::longTrace);
        Cases.says("An object is used for at most 512 calls", HandEdgesTest::lastCall);
        Cases.end("HandEdgesTest");
    }

    private static void due(String call, long got, long want) {
        Cases.due(call, got, want);
    }

    private static EdgeOfCard read(String text) {
        return Cases.read(text);
    }

    // ---- SEEN

    private static void sawPiecesAndLines() {
        for (int pieces = 0; pieces <= 10; pieces += 5) {
            for (int lines = 0; lines <= 6; lines += 3) {
                EdgeOfCard x = read("l9;".repeat(lines) + WORD.repeat(pieces));
                boolean any = pieces > 0 && lines > 0;
                due("the first", x.saw(0, 0), any ? 1 : BAD);
                due("the last", x.saw(pieces - 1, lines - 1), any ? 2 : BAD);
                due("PIECE -1", x.saw(-1, 0), BAD);
                due("PIECE " + pieces, x.saw(pieces, 0), BAD);
                due("LINE -1", x.saw(0, -1), BAD);
                due("LINE " + lines, x.saw(0, lines), BAD);
                due("SEEN", x.count(3), any ? 2 : 0);
            }
        }
        Cases.changesNothing("saw of a new object", x -> { }, x -> x.saw(0, 0), BAD);
        Cases.changesNothing("PIECE 5", Cases::inTheMidst, x -> x.saw(5, 0), BAD);
        Cases.changesNothing("LINE 3", Cases::inTheMidst, x -> x.saw(0, 3), BAD);
        Cases.changesNothing("PIECE -1", Cases::inTheMidst, x -> x.saw(-1, 2), BAD);
        Cases.changesNothing("LINE -1", Cases::inTheMidst, x -> x.saw(4, -1), BAD);
    }

    private static void sixSeen() {
        EdgeOfCard x = read("l9;l9;" + WORD.repeat(7));
        for (int i = 0; i < 5; i++) {
            due("saw", x.saw(i, 0), i + 1);
        }
        due("the sixth", x.saw(5, 0), 6);
        due("a seventh", x.saw(6, 0), FULL);
        due("one that was SEEN", x.saw(5, 0), FULL);
        due("SEEN", x.count(3), 6);
        due("forget", x.forget(), 6);
        due("the first again", x.saw(6, 0), 1);
        // The same again counts again.
        EdgeOfCard y = read("l9;" + WORD);
        for (int i = 1; i <= 6; i++) {
            due("the same", y.saw(0, 0), i);
        }
        due("a seventh time", y.saw(0, 0), FULL);
        Cases.changesNothing("a seventh", Cases::full, z -> z.saw(0, 1), FULL);
        Cases.changesNothing("a seventh, of the last", Cases::full, z -> z.saw(2, 1), FULL);
        // The sixth counts for SIZES, the seventh doesn't.
        EdgeOfCard z = read("l9;l9;" + WORD.repeat(2));
        for (int i = 0; i < 5; i++) {
            z.saw(0, 0);
        }
        due("both on LINE 0", z.sizes() & 2, 2);
        due("the sixth", z.saw(1, 1), 6);
        due("in 1 the second is on LINE 0", z.sizes() & 2, 0);
        due("in 5 it is on LINE 1", z.sizes() & 32, 32);
        due("a seventh", z.saw(1, 0), FULL);
        due("it is not known", z.sizes() & 32, 32);
    }

    private static void badAheadOfFull() {
        Cases.changesNothing("PIECE 3", Cases::full, x -> x.saw(3, 0), BAD);
        Cases.changesNothing("PIECE -1", Cases::full, x -> x.saw(-1, 0), BAD);
        Cases.changesNothing("LINE 2", Cases::full, x -> x.saw(0, 2), BAD);
        Cases.changesNothing("LINE -1", Cases::full, x -> x.saw(0, -1), BAD);
    }

    private static void forgetting() {
        Cases.changesNothing("forget of nothing", x -> { }, EdgeOfCard::forget, 0);
        for (int many = 0; many <= 6; many++) {
            EdgeOfCard x = read("l9;l9;" + WORD);
            for (int i = 0; i < many; i++) {
                x.saw(0, 1);
            }
            due("sizes", x.sizes(), many == 0 ? 62 : 0);
            due("forget", x.forget(), many);
            due("SEEN", x.count(3), 0);
            due("sizes", x.sizes(), 62);
            due("forget again", x.forget(), 0);
        }
        Cases.leavesAsTwin("forget, and the same again", Cases::inTheMidst, x -> {
            due("forget", x.forget(), 2);
            x.saw(0, 0);
            x.saw(1, 0);
        }, x -> { });
    }

    private static void sizesAsSeen() {
        // In 1 all are on LINE 0; in 2 on 0, 0, 1; in 3 on 0, 1, 1; in 4 and 5 on 0, 1, 2.
        String text = "l10;l10;l10;w2 0 99 0 0;" + WORD.repeat(2);
        int[][] sizesOf = {{62, 0, 0}, {6, 56, 0}, {2, 12, 48}};
        for (int w = 0; w < 3; w++) {
            for (int l = 0; l < 3; l++) {
                EdgeOfCard x = read(text);
                x.saw(w, l);
                due("PIECE " + w + " on LINE " + l, x.sizes(), sizesOf[w][l]);
                x.saw(w, l);
                due("the same again", x.sizes(), sizesOf[w][l]);
                x.saw(w, (l + 1) % 3);
                due("on two LINES", x.sizes(), 0);
            }
        }
        EdgeOfCard y = read(text);
        y.saw(1, 1);
        y.saw(2, 1);
        due("both", y.sizes(), 8);
        y.saw(0, 0);
        due("all three", y.sizes(), 8);
    }

    private static void sizesAllOn() {
        due("nothing told", new EdgeOfCard().sizes(), 62);
        for (int least = 1; least <= 5; least++) {
            due("LEAST " + least, read("z" + least + ";").sizes(), 64 - (1 << least));
        }
        for (int size = 1; size <= 5; size++) {
            int upTo = (2 << size) - 2;
            due("just", read("l" + 3 * size + ";w3 0 99 0 0;").sizes(), upTo);
            due("one less", read("l" + (3 * size - 1) + ";w3 0 99 0 0;").sizes(), upTo - (1 << size));
        }
        due("no LINES", read(WORD).sizes(), 0);
        // The first is as SEEN in all sizes, but the last one doesn't go ON in 5.
        EdgeOfCard x = read("l5;l4;" + WORD.repeat(2));
        x.saw(0, 0);
        due("not all ON", x.sizes(), 30);
    }

    // ---- TWO

    private static void twoFrom() {
        for (int pieces = 0; pieces <= 10; pieces++) {
            EdgeOfCard x = read(WORD.repeat(pieces));
            due("-1", x.two(-1), BAD);
            due("0", x.two(0), 0);
            due("how many", x.two(pieces), 0);
            due("one more", x.two(pieces + 1), BAD);
            due("lowest", x.two(Cases.LOWEST), BAD);
            due("highest", x.two(Cases.HIGHEST), BAD);
        }
        Cases.changesNothing("two 6 of 5", Cases::inTheMidst, x -> x.two(6), BAD);
        Cases.changesNothing("two 5 of 5", Cases::inTheMidst, x -> x.two(5), 0);
    }

    private static void twoNeeds() {
        StringBuilder chain = new StringBuilder(WORD);
        for (int w = 1; w < 10; w++) {
            chain.append("w1 0 ").append(w - 1).append(" 0 0;");
        }
        EdgeOfCard x = read(chain.toString());
        for (int i = 0; i <= 10; i++) {
            due("a chain, from " + i, x.two(i), i == 0 ? 0 : 10 - i);
        }
        // 1 needs 0, 3 needs 2, 4 needs 3.
        EdgeOfCard y = read(WORD + "w1 0 0 0 0;" + WORD + "w1 0 2 0 0;w1 0 3 0 0;");
        int[] many = {0, 1, 0, 2, 1, 0};
        for (int i = 0; i < many.length; i++) {
            due("from " + i, y.two(i), many[i]);
        }
        // All need the first.
        EdgeOfCard z = read(WORD + "w1 0 0 0 0;".repeat(9));
        for (int i = 1; i <= 10; i++) {
            due("all need 0, from " + i, z.two(i), 10 - i);
        }
    }

    // ---- KINDS

    private static void kinds() {
        int[] wrongKinds = {Cases.LOWEST, -32, -2, -1, 6, 7, 32, 37, Cases.HIGHEST};
        int[] wrongPieces = {Cases.LOWEST, -1, 5, 6, 10, 32, Cases.HIGHEST};
        for (int kind : wrongKinds) {
            Cases.changesNothing("kind " + kind, Cases::inTheMidst, x -> x.mark(kind, 0), NO);
            Cases.changesNothing("kind " + kind + ", PIECE 5", Cases::inTheMidst, x -> x.mark(kind, 5), NO);
        }
        for (int w : wrongPieces) {
            for (int kind = 0; kind <= 5; kind++) {
                int each = kind;
                Cases.changesNothing("PIECE " + w, Cases::inTheMidst, x -> x.mark(each, w), NO);
            }
        }
        Cases.changesNothing("no PIECES", x -> Cases.tell(x, "l9;"), x -> x.mark(0, 0), NO);
        Cases.changesNothing("a new object", x -> { }, x -> x.mark(0, 0), NO);
        EdgeOfCard x = read(WORD.repeat(10));
        due("the tenth", x.mark(0, 9), 1);
        due("an eleventh", x.mark(0, 10), NO);
    }

    private static void marks(EdgeOfCard x, int w, int[] due) {
        for (int kind = 0; kind <= 5; kind++) {
            due("mark " + kind + " of " + w, x.mark(kind, w), due[kind]);
        }
    }

    private static void leastAndMostMarks() {
        EdgeOfCard x = read("w1 0 99 0 0;w12 9 99 12 11;w12 0 99 0 0;w2 9 99 0 1;");
        marks(x, 0, new int[] {1, 1, 1, 2, 1, 6});
        marks(x, 1, new int[] {12, 21, 1, 42, 1, 17});
        marks(x, 2, new int[] {12, 12, 12, 24, 12, 17});
        marks(x, 3, new int[] {2, 11, 1, 22, 1, 7});
    }

    private static void marksOfNow() {
        EdgeOfCard x = read("l9;".repeat(6) + "w7 3 99 0 2;");
        for (int l = 0; l <= 5; l++) {
            marks(x, 0, new int[] {7, 10, 5, 20, 5 + l, 12});
            x.turnsOver();
        }
        for (int size = 4; size >= 1; size--) {
            x.smaller(size);
            marks(x, 0, new int[] {7, 10, 5, 20, 10, 7 + size});
        }
        // Of a PIECE that was OMITTED, and of one that is not next, just so.
        x.omits();
        marks(x, 0, new int[] {7, 10, 5, 20, 10, 8});
    }

    private static void traces() {
        for (int kind = 0; kind <= 5; kind++) {
            EdgeOfCard x = read(WORD);
            due("at first", x.trace(), 0);
            x.mark(kind, 0);
            due("once", x.trace(), TRACES[kind]);
            x.mark(kind, 0);
            due("twice", x.trace(), 2 * TRACES[kind]);
            due("refused", x.mark(kind, 1), NO);
            due("refused", x.mark(6, 0), NO);
            due("twice still", x.trace(), 2 * TRACES[kind]);
        }
        EdgeOfCard y = read("l30;l30;w2 1 99 1 1;" + WORD);
        y.writes();
        y.turnsOver();
        y.undo();
        y.keep(0);
        y.back(0);
        y.kept(1, 0);
        y.odds(1, 5, 0);
        due("no other call comes to it", y.trace(), 0);
    }

    // ---- IMAGES

    private static void keeping() {
        int[] wrongs = {Cases.LOWEST, -32, -1, 2, 3, 32, 33, Cases.HIGHEST};
        for (int image : wrongs) {
            Cases.changesNothing("keep " + image, Cases::inTheMidst, x -> x.keep(image), BAD);
            Cases.changesNothing("keep " + image, x -> { }, x -> x.keep(image), BAD);
        }
        due("keep 0 of a new object", new EdgeOfCard().keep(0), 0);
        due("keep 1 of a new object", new EdgeOfCard().keep(1), 0);
        EdgeOfCard x = read(WORD.repeat(10));
        for (int i = 0; i <= 10; i++) {
            due("keep", x.keep(i % 2), i);
            x.omits();
        }
        due("back 0", x.back(0), 10);
        due("back 1", x.back(1), 9);
    }

    private static void backRefused() {
        int[] wrongs = {Cases.LOWEST, -32, -1, 2, 3, 32, 33, Cases.HIGHEST};
        for (int image : wrongs) {
            Cases.changesNothing("back " + image, Cases::inTheMidst, x -> x.back(image), BAD);
            Cases.changesNothing("BAD ahead of STATE, back " + image, x -> { }, x -> x.back(image), BAD);
        }
        Cases.changesNothing("back 0, none kept", x -> { }, x -> x.back(0), STATE);
        Cases.changesNothing("back 1, none kept", x -> { }, x -> x.back(1), STATE);
        Cases.changesNothing("back 0, 1 kept", Cases::manySteps, x -> x.back(0), STATE);
        Cases.changesNothing("back 1, 0 kept", x -> {
            Cases.tell(x, "l9;" + WORD);
            x.keep(0);
            x.omits();
        }, x -> x.back(1), STATE);
        EdgeOfCard x = new EdgeOfCard();
        due("keep", x.keep(1), 0);
        due("back", x.back(1), 0);
    }

    private static void asAnImageHasIt() {
        Cases.leavesAsTwin("keep, go on, back", Cases::inTheMidst, x -> {
            due("keep", x.keep(0), 3);
            x.omits();
            x.smaller(2);
            x.turnsOver();
            x.undo();
            x.writes();
            due("back", x.back(0), 3);
        }, x -> x.keep(0));
        // An IMAGE stays as it is, whatever comes behind it, another back among it.
        EdgeOfCard x = read("l30;l20;" + WORD.repeat(3));
        x.writes();
        x.keep(0);
        x.omits();
        x.keep(1);
        x.undo();
        x.undo();
        due("back 1", x.back(1), 2);
        due("OMITTED", x.now(4), 2);
        x.turnsOver();
        due("back 0", x.back(0), 1);
        due("LINE", x.now(1), 0);
        due("LEFT", x.now(2), 25);
        due("back 1 again", x.back(1), 2);
        due("LINE", x.now(1), 0);
        due("keep 0 as 1 is", x.keep(0), 2);
        x.undo();
        due("kept over the former", x.back(0), 2);
    }

    private static void nothingElse() {
        EdgeOfCard x = read("l30;l20;" + WORD.repeat(2));
        x.saw(0, 0);
        x.type('l');
        x.keep(0);
        x.saw(1, 1);
        x.type('9');
        x.mark(0, 0);
        x.omits();
        x.keep(1);
        due("back", x.back(0), 0);
        due("SEEN stays", x.count(3), 2);
        due("THE TEXT stays", x.count(5), 2);
        due("THE TRACE stays", x.trace(), 1);
        due("the other IMAGE stays", x.back(1), 1);
        due("back", x.back(0), 0);
        x.forget();
        x.clear();
        due("back", x.back(1), 1);
        due("SEEN stays", x.count(3), 0);
        due("THE TEXT stays", x.count(5), 0);
    }

    private static void imagesKeepThePast() {
        EdgeOfCard x = new EdgeOfCard();
        Cases.manySteps(x);
        due("keep", x.keep(0), 6);
        for (int i = 11; i >= 0; i--) {
            due("undo", x.undo(), i);
        }
        due("back", x.back(0), 6);
        due("all twelve", x.count(4), 12);
        due("undo", x.undo(), 11);
        due("SIZE", x.now(3), 4);
        due("undo", x.undo(), 10);
        due("next PIECE", x.now(0), 5);
        due("back", x.back(0), 6);
        x.omits();
        due("the oldest is lost", x.count(4), 12);
        due("back", x.back(0), 6);
        for (int i = 11; i >= 0; i--) {
            due("undo", x.undo(), i);
        }
        due("not of the IMAGE", x.now(3), 5);
        // An IMAGE without any, of an object with some.
        EdgeOfCard y = read("l9;" + WORD);
        y.keep(0);
        y.omits();
        due("back", y.back(0), 0);
        due("none", y.undo(), STATE);
    }

    private static void imagesGone() {
        EdgeOfCard x = read("l9;" + WORD);
        x.omits();
        x.keep(0);
        x.keep(1);
        Cases.typeAll(x, "l9");
        due("refused", x.card(), -12);
        due("back 0", x.back(0), 1);
        due("back 1", x.back(1), 1);
        x.type(';');
        due("read anew", x.card(), 1);
        due("back 0", x.back(0), STATE);
        due("back 1", x.back(1), STATE);
    }

    // ---- count(), trace()

    private static void counts() {
        EdgeOfCard x = read("z5;" + "l9;".repeat(6) + WORD.repeat(10));
        for (int i = 0; i < 10; i++) {
            x.omits();
        }
        for (int i = 0; i < 5; i++) {
            x.turnsOver();
        }
        for (int i = 0; i < 7; i++) {
            x.saw(0, 0);
        }
        Cases.typeAll(x, " ".repeat(201));
        int[] most = {6, 10, 5, 6, 12, 200};
        int[] none = {0, 0, 1, 0, 0, 0};
        due("-1", x.count(-1), BAD);
        for (int what = 0; what <= 5; what++) {
            due("most of " + what, x.count(what), most[what]);
            due("none of " + what, new EdgeOfCard().count(what), none[what]);
        }
        due("6", x.count(6), BAD);
        due("lowest", x.count(Cases.LOWEST), BAD);
        due("highest", x.count(Cases.HIGHEST), BAD);
    }

    private static void longTrace() {
        EdgeOfCard x = read(WORD);
        for (int i = 1; i <= 450; i++) {
            x.mark(5, 0);
        }
        due("THE TRACE", x.trace(), 45000450L);
        due("it stays", x.trace(), 45000450L);
        Cases.changesNothing("trace", Cases::inTheMidst, EdgeOfCard::trace, 1011);
    }

    private static void lastCall() {
        EdgeOfCard x = new EdgeOfCard();
        int calls = 0;
        for (; calls < 200; calls++) {
            x.type(' ');
        }
        for (; calls < 508; calls++) {
            due("FULL", x.type(' '), FULL);
        }
        due("call 509", x.card(), 0);
        due("call 510", x.smaller(2), 5);
        due("call 511", x.undo(), 0);
        due("call 512", x.now(3), 5);
    }
}
