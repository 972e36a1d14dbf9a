/** For each promise of the document: ordinary inputs, the edges that it names, wrong inputs. */
public final class PromisesTest {
    private static final int BAD = -1, STATE = -2, FULL = -3, NONE = -9, NO = -1000000;
    private static final int LOWEST = Integer.MIN_VALUE, HIGHEST = Integer.MAX_VALUE;

    private static int asked = 0;
    private static int wrong = 0;

    private static void due(String call, long got, long want) {
        asked++;
        if (got != want) {
            wrong++;
            System.out.println(call + " answered " + got + ", due is " + want);
        }
    }

    private static void typeAll(EdgeOfCard x, String text) {
        for (int i = 0; i < text.length(); i++) {
            due("type", x.type(text.charAt(i)), i + 1);
        }
    }

    private static EdgeOfCard read(String text, int items) {
        EdgeOfCard x = new EdgeOfCard();
        typeAll(x, text);
        due("card of " + text, x.card(), items);
        return x;
    }

    public static void main(String[] args) {
        newObject();
        type();
        clear();
        cardReads();
        cardFaults();
        cardRefusedChangesNothing();
        cardReadsAnew();
        line();
        word();
        writes();
        signs();
        breaks();
        omits();
        smaller();
        turnsOver();
        undo();
        now();
        fill();
        greatest();
        even();
        kept();
        telegram();
        begun();
        odds();
        saw();
        forget();
        sizes();
        two();
        mark();
        images();
        count();
        trace();
        System.out.println("PromisesTest: " + (asked - wrong) + " answers as due, " + wrong + " not");
        if (wrong != 0) {
            System.exit(1);
        }
    }

    // Promise 1
    private static void newObject() {
        EdgeOfCard x = new EdgeOfCard();
        int[] counts = {0, 0, 1, 0, 0, 0};
        for (int what = 0; what < counts.length; what++) {
            due("new: count " + what, x.count(what), counts[what]);
        }
        int[] nows = {0, 0, 0, 5, 0, 0, 0};
        for (int what = 0; what < nows.length; what++) {
            due("new: now " + what, x.now(what), nows[what]);
        }
        due("new: trace", x.trace(), 0);
        due("new: line", x.line(0), BAD);
        due("new: word", x.word(0, 0), BAD);
        due("new: writes", x.writes(), STATE);
        due("new: signs", x.signs(), STATE);
        due("new: breaks", x.breaks(), STATE);
        due("new: omits", x.omits(), STATE);
        due("new: undo", x.undo(), STATE);
        due("new: back", x.back(0), STATE);
        due("new: clear", x.clear(), 0);
        due("new: card of nothing", x.card(), 0);
    }

    // Promise 2
    private static void type() {
        EdgeOfCard x = new EdgeOfCard();
        due("type(-1)", x.type(-1), BAD);
        due("type(256)", x.type(256), BAD);
        due("type(lowest)", x.type(LOWEST), BAD);
        due("type(highest)", x.type(HIGHEST), BAD);
        due("type(0)", x.type(0), 1);
        due("type(255)", x.type(255), 2);
        for (int i = 3; i <= 200; i++) {
            due("type", x.type(32), i);
        }
        due("type beyond 200", x.type(32), FULL);
        due("BAD ahead of FULL", x.type(256), BAD);
        due("bytes", x.count(5), 200);
    }

    // Promise 3
    private static void clear() {
        EdgeOfCard x = new EdgeOfCard();
        typeAll(x, "l 5;x");
        due("clear", x.clear(), 5);
        due("clear again", x.clear(), 0);
        due("bytes", x.count(5), 0);
        typeAll(x, "l 7;");
        due("card of what came behind", x.card(), 1);
        due("line", x.line(0), 7);
    }

    private static String times(String part, int many) {
        StringBuilder all = new StringBuilder();
        for (int i = 0; i < many; i++) {
            all.append(part);
        }
        return all.toString();
    }

    // Promise 4
    private static void cardReads() {
        read("", 0);
        read("   ", 0);
        read("  l  5  ;  ", 1);
        read("l1;l60;", 2);
        read("z1;", 1);
        read("z5;l3;", 2);
        read("w1 0 99 0 0;", 1);
        read("w12 9 99 12 11;", 1);
        read("w2 0 99 0 1;w2 0 0 1 0;w2 0 1 0 0;", 3);
        read("w2 0 99 0 1;w2 0 99 1 0;w2 0 0 0 0;", 3);
        EdgeOfCard x = read(times("w1 0 99 0 0;", 10) + times("l1;", 6) + "z 2;", 17);
        due("lines", x.count(0), 6);
        due("pieces", x.count(1), 10);
        due("least", x.count(2), 2);
        due("the text is empty then", x.count(5), 0);
        due("nothing tells that nothing is there", x.card(), 0);
        due("lines", x.count(0), 0);
        due("pieces", x.count(1), 0);
        due("least", x.count(2), 1);
        read("l 5;" + times(" ", 196), 1);
        read(times(" ", 196) + "l 5;", 1);
    }

    private static void fault(String text, int place) {
        EdgeOfCard x = new EdgeOfCard();
        typeAll(x, text);
        due("FAULT of '" + text + "'", x.card(), -10 - place);
        due("the text stays, of '" + text + "'", x.clear(), text.length());
    }

    /** What was typed ahead of clear() is gone, though it was longer. */
    private static void faultBehindOther(String other, String text, int place) {
        EdgeOfCard x = new EdgeOfCard();
        typeAll(x, other);
        x.clear();
        typeAll(x, text);
        due("FAULT of '" + text + "' behind '" + other + "'", x.card(), -10 - place);
    }

    private static void cardFaults() {
        String word = "w1 0 99 0 0;";
        // what can't stand there
        fault(";", 0);
        fault("5", 0);
        fault("x 5;", 0);
        fault("ll 5;", 0);
        fault("lw 5;", 0);
        fault("a", 0);
        fault("l;", 1);
        fault("l l;", 2);
        fault("w1 0 c 0 0;", 5);
        fault("l5 5;", 3);
        fault("l5w;", 2);
        fault("l5;5", 3);
        fault("l5;;", 3);
        fault("w1 0 99 0;", 9);
        fault("w1 0 99 0 0 0;", 12);
        fault("z1 1;", 3);
        fault(" z;", 2);
        // bytes that begin no TOKEN
        fault("L 5;", 0);
        fault("l5;*", 3);
        fault("l-5;", 1);
        fault("l\t5;", 1);
        fault("l5;\n", 3);
        fault("l5" + (char) 0 + ";", 2);
        fault("l5;" + (char) 255, 3);
        fault("l5;`", 3);
        fault("l5;{", 3);
        fault("l/;", 1);
        fault("l:;", 1);
        fault("l" + (char) (256 - 128 + 53) + ";", 1);
        // NUMBERS
        fault("l100;", 1);
        fault("l 00;", 2);
        fault("l 007;", 2);
        fault("l 05", 2);
        fault("l 99999999999;", 2);
        fault("l 4294967301;", 2);
        fault("100", 0);
        fault("l 5 100;", 4);
        fault("l0;", 1);
        fault("l61;", 1);
        fault("z0;", 1);
        fault("z6;", 1);
        fault("w0 0 99 0 0;", 1);
        fault("w13 0 99 0 0;", 1);
        fault("w1 10 99 0 0;", 3);
        fault("w1 0 0 0 0;", 5);
        fault("w1 0 98 0 0;", 5);
        fault("w1 0 100 0 0;", 5);
        fault("w1 0 099 0 0;", 5);
        fault(word + "w1 0 1 0 0;", 17);
        fault("w1 0 99 13 0;", 8);
        fault("w1 0 99 0 1;", 10);
        fault("w2 0 99 0 2;", 10);
        fault("w12 0 99 0 12;", 11);
        // too many
        fault(times("l1;", 7), 18);
        fault(times("l1;", 6) + "l", 18);
        fault(times("l1;", 6) + "l 0;", 18);
        fault(times(word, 11), 120);
        fault("z1;z1;", 3);
        fault("z1;l1;z", 6);
        // ends too early
        fault("l", 1);
        fault("l ", 2);
        fault("l 1", 3);
        fault("l 1  ", 5);
        fault("w", 1);
        fault("w1 0 99 0 0", 11);
        fault("l1;z", 4);
        fault("l1;z1", 5);
        fault("l" + times(" ", 199), 200);
        fault(times(" ", 199) + "l", 200);
        fault(times(" ", 198) + "l5", 200);
        faultBehindOther("l 12;", "l 1", 3);
        faultBehindOther("ll5;", "l", 1);
        faultBehindOther("l5;", "l5", 2);
        // the first of several
        fault("l 61; *", 2);
        fault("l * 61;", 2);
    }

    private static void cardRefusedChangesNothing() {
        EdgeOfCard x = read("l20;l10;z2;w2 1 99 1 1;w3 2 0 0 0;", 5);
        x.writes();
        x.omits();
        x.saw(0, 1);
        x.keep(0);
        typeAll(x, "z3;l7;w9 9 99 0 0;?");
        due("FAULT", x.card(), -28);
        due("line 0", x.line(0), 20);
        due("lines", x.count(0), 2);
        due("pieces", x.count(1), 2);
        due("least", x.count(2), 2);
        due("seen", x.count(3), 1);
        due("to be undone", x.count(4), 2);
        due("bytes", x.count(5), 19);
        due("letters", x.word(0, 0), 2);
        due("next", x.now(0), 2);
        due("left", x.now(2), 10);
        due("omitted", x.now(4), 2);
        due("image", x.back(0), 2);
        due("the FAULT stays", x.card(), -28);
    }

    private static void cardReadsAnew() {
        EdgeOfCard x = read("l20;l10;z2;w2 1 99 1 1;w3 2 0 0 0;", 5);
        x.writes();
        x.smaller(3);
        x.turnsOver();
        x.omits();
        x.saw(0, 1);
        x.keep(0);
        x.keep(1);
        x.mark(1, 0);
        typeAll(x, "l8;w4 1 99 0 0;");
        due("anew", x.card(), 2);
        int[] nows = {0, 0, 8, 5, 0, 0, 0};
        for (int what = 0; what < nows.length; what++) {
            due("anew: now " + what, x.now(what), nows[what]);
        }
        int[] counts = {1, 1, 1, 0, 0, 0};
        for (int what = 0; what < counts.length; what++) {
            due("anew: count " + what, x.count(what), counts[what]);
        }
        due("anew: undo", x.undo(), STATE);
        due("anew: back 0", x.back(0), STATE);
        due("anew: back 1", x.back(1), STATE);
        due("anew: line 1", x.line(1), BAD);
        due("anew: word 1", x.word(1, 0), BAD);
        due("anew: THE TRACE stays", x.trace(), 11);
    }

    // Promise 5
    private static void line() {
        EdgeOfCard x = read("l1;l60;l 33;", 3);
        due("line 0", x.line(0), 1);
        due("line 1", x.line(1), 60);
        due("line 2", x.line(2), 33);
        due("line 3", x.line(3), BAD);
        due("line -1", x.line(-1), BAD);
        due("line lowest", x.line(LOWEST), BAD);
        due("line highest", x.line(HIGHEST), BAD);
    }

    // Promise 6
    private static void word() {
        EdgeOfCard x = read("w3 4 99 5 2;w12 0 0 0 11;", 2);
        int[][] told = {{3, 4, 99, 5, 2, 0}, {12, 0, 0, 0, 11, 0}};
        for (int w = 0; w < 2; w++) {
            for (int what = 0; what < 6; what++) {
                due("word " + w + " " + what, x.word(w, what), told[w][what]);
            }
            due("word, what 6", x.word(w, 6), BAD);
            due("word, what -1", x.word(w, -1), BAD);
            due("word, what highest", x.word(w, HIGHEST), BAD);
        }
        due("word 2", x.word(2, 0), BAD);
        due("word -1", x.word(-1, 0), BAD);
        due("word lowest", x.word(LOWEST, 0), BAD);
        x.omits();
        due("omitted", x.word(0, 5), 1);
        due("not omitted", x.word(1, 5), 0);
        x.undo();
        due("no more omitted", x.word(0, 5), 0);
    }

    // Promise 7
    private static void writes() {
        EdgeOfCard x = read("l 30;l4;l5;w3 0 99 0 0;w2 0 99 0 0;w1 0 99 0 0;w1 0 99 0 0;", 7);
        due("first, no blank", x.writes(), 15);
        due("with the blank, all of it", x.writes(), 0);
        due("does not go", x.writes(), STATE);
        due("nothing changed", x.now(0), 2);
        due("nothing to be undone of it", x.count(4), 2);
        due("turns", x.turnsOver(), 1);
        due("4 is too narrow for 5", x.writes(), STATE);
        due("turns", x.turnsOver(), 2);
        due("just goes", x.writes(), 0);
        x.smaller(1);
        due("no room", x.writes(), STATE);
        due("no line", read("w1 0 99 0 0;", 1).writes(), STATE);
        due("no piece", read("l9;", 1).writes(), STATE);

        EdgeOfCard y = read("l 20;w1 0 99 0 0;w3 0 99 0 0;w1 0 99 0 0;", 4);
        due("in 5", y.writes(), 15);
        y.smaller(2);
        due("the blank is in the size, too", y.writes(), 7);
        y.omits();
        due("none is next", y.writes(), STATE);

        EdgeOfCard z = read("l 10;w1 0 99 0 0;w2 0 99 0 0;", 3);
        z.omits();
        due("no blank behind an omitted one", z.writes(), 0);
    }

    // Promise 8
    private static void signs() {
        EdgeOfCard x = read("l 30;w12 0 99 2 0;w1 0 99 3 0;w1 0 99 0 0;", 4);
        due("sign", x.signs(), 20);
        due("with the blank", x.signs(), 0);
        due("next", x.now(0), 2);
        due("it has none", x.signs(), STATE);
        due("it has none, though there is room", read("l 30;w1 0 99 0 0;", 2).signs(), STATE);
        EdgeOfCard y = read("l 30;w1 0 99 7 0;", 2);
        due("does not go", y.signs(), STATE);
        y.smaller(4);
        due("goes", y.signs(), 2);
        due("no piece is next", y.signs(), STATE);
        due("no line", read("w1 0 99 1 0;", 1).signs(), STATE);
    }

    // Promise 9
    private static void breaks() {
        EdgeOfCard x = read("l 20;l 15;l1;w6 0 99 0 3;w1 0 99 0 0;w4 0 99 0 1;", 6);
        due("broken with the stroke", x.breaks(), 0);
        due("line", x.now(1), 1);
        due("next", x.now(0), 1);
        x.undo();
        due("undone", x.now(2), 20);
        due("undone: line", x.now(1), 0);
        x.smaller(2);
        due("in 2", x.breaks(), 9);
        due("a blank behind the rest", x.writes(), 5);
        due("the rest does not go on the next", x.breaks(), STATE);
        due("nothing changed", x.now(2), 5);
        x.smaller(1);
        due("4 - 1 on 1", x.breaks(), STATE);

        due("a first part that does not go", read("l19;l60;w6 0 99 0 3;", 3).breaks(), STATE);
        due("a first part that just goes", read("l20;l60;w6 0 99 0 3;", 3).breaks(), 45);
        due("a rest that does not go", read("l20;l14;l15;w6 0 99 0 3;", 4).breaks(), STATE);
        due("no next line", read("l60;w6 0 99 0 3;", 2).breaks(), STATE);
        due("no line", read("w6 0 99 0 3;", 1).breaks(), STATE);
        due("no piece", read("l60;l60;", 2).breaks(), STATE);
        due("may not be broken", read("l60;l60;w6 0 99 0 0;", 3).breaks(), STATE);

        EdgeOfCard y = read("l 25;l 10;w1 0 99 0 0;w4 0 99 0 2;", 4);
        y.writes();
        due("blank, letters and stroke: 4 in 20", y.breaks(), 0);
        EdgeOfCard z = read("l 24;l 10;w1 0 99 0 0;w4 0 99 0 2;", 4);
        z.writes();
        due("blank, letters and stroke: 4 in 19", z.breaks(), STATE);
    }

    // Promise 10
    private static void omits() {
        EdgeOfCard x = read("w1 0 99 0 0;w1 0 99 0 0;w1 0 99 0 0;l9;", 4);
        due("omits", x.omits(), 1);
        due("writes between", x.writes(), 4);
        due("omits", x.omits(), 2);
        due("left is as it was", x.now(2), 4);
        due("none is next", x.omits(), STATE);
        due("bits", x.now(4), 5);
        due("without a line", read("w1 0 99 0 0;", 1).omits(), 1);
    }

    // Promise 11
    private static void smaller() {
        EdgeOfCard x = read("z2;l9;", 2);
        due("size 0", x.smaller(0), BAD);
        due("size 6", x.smaller(6), BAD);
        due("size lowest", x.smaller(LOWEST), BAD);
        due("size highest", x.smaller(HIGHEST), BAD);
        due("the same", x.smaller(5), STATE);
        due("below LEAST", x.smaller(1), STATE);
        due("smaller", x.smaller(3), 5);
        due("greater", x.smaller(4), STATE);
        due("the same", x.smaller(3), STATE);
        due("LEAST", x.smaller(2), 3);
        due("size", x.now(3), 2);
        due("LEAST again", x.smaller(2), STATE);
        due("known", x.count(4), 2);
    }

    // Promise 12
    private static void turnsOver() {
        EdgeOfCard x = read("l9;l8;l7;w1 0 99 0 0;", 4);
        due("turns", x.turnsOver(), 1);
        due("left", x.now(2), 8);
        due("writes", x.writes(), 3);
        due("turns", x.turnsOver(), 2);
        due("left", x.now(2), 7);
        due("there is none", x.turnsOver(), STATE);
        due("line", x.now(1), 2);
        due("of one line", read("l9;", 1).turnsOver(), STATE);
        due("of no line", read("", 0).turnsOver(), STATE);
    }

    // Promise 13
    private static void undo() {
        EdgeOfCard x = read("l30;l20;w1 0 99 0 0;w4 0 99 1 2;w1 0 99 0 0;", 5);
        x.writes();
        x.breaks();
        x.smaller(4);
        x.omits();
        due("undo omits", x.undo(), 3);
        due("omitted", x.now(4), 0);
        due("next", x.now(0), 2);
        due("undo smaller", x.undo(), 2);
        due("size", x.now(3), 5);
        due("undo breaks", x.undo(), 1);
        due("left", x.now(2), 25);
        due("line", x.now(1), 0);
        x.signs();
        due("undo signs", x.undo(), 1);
        x.turnsOver();
        due("undo turns", x.undo(), 1);
        due("left", x.now(2), 25);
        due("undo writes", x.undo(), 0);
        due("left", x.now(2), 30);
        due("none", x.undo(), STATE);

        EdgeOfCard y = read(times("l50;", 6) + times("w1 9 99 0 0;", 10), 16);
        for (int i = 0; i < 10; i++) {
            y.omits();
        }
        y.turnsOver();
        y.turnsOver();
        due("12 known", y.count(4), 12);
        y.turnsOver();
        due("12 known, the oldest is lost", y.count(4), 12);
        y.turnsOver();
        for (int i = 11; i >= 0; i--) {
            due("undo", y.undo(), i);
            due("line behind undo", y.now(1), Math.max(0, i - 8));
            due("omitted behind undo", y.now(4), (1 << Math.min(10, i + 2)) - 1);
            due("left behind undo", y.now(2), 50);
            due("size behind undo", y.now(3), 5);
        }
        due("no more", y.undo(), STATE);
        due("two of ten can't be taken back", y.now(4), 3);
        due("next", y.now(0), 2);
        due("line", y.now(1), 0);
    }

    // Promise 14
    private static void now() {
        EdgeOfCard x = read("l60;l9;w1 5 99 0 0;w1 4 0 0 0;w1 3 1 0 0;w1 2 99 0 0;w1 1 3 0 0;", 7);
        x.smaller(1);
        x.writes();
        x.writes();
        due("sense as far as one came", x.now(5), 3);
        due("worth", x.now(6), 9);
        x.undo();
        x.omits();
        x.writes();
        x.writes();
        due("2 needs 1, omitted", x.now(5), 9);
        due("worth", x.now(6), 7);
        x.undo();
        x.undo();
        x.undo();
        x.undo();
        x.omits();
        x.writes();
        x.writes();
        x.writes();
        x.writes();
        due("1 needs 0, 2 needs 1", x.now(5), 24);
        due("worth", x.now(6), 3);
        due("next", x.now(0), 5);
        due("line", x.now(1), 0);
        due("left", x.now(2), 60 - 7);
        due("size", x.now(3), 1);
        due("omitted", x.now(4), 1);
        due("what 7", x.now(7), BAD);
        due("what -1", x.now(-1), BAD);
        due("what lowest", x.now(LOWEST), BAD);
    }

    // Promise 15
    private static void fill() {
        // in 2: 3 words of 3, 2, 4 letters are 6, 4, 8, a blank is 2
        EdgeOfCard x = read("z2;l12;l5;l 9;w3 0 99 0 0;w2 0 99 0 0;w4 0 99 0 0;", 7);
        due("both on line 0, just", x.fill(2, 3, 0), 0);
        due("spare", x.fill(2, 3, 1), 0);
        due("line 1 stays empty", x.fill(2, 7, 0), 2);
        due("spare", x.fill(2, 7, 1), 1);
        due("the last alone", x.fill(2, 4, 0), 0);
        due("spare", x.fill(2, 4, 1), 4);
        due("in 3: 9 and 3 + 6 > 3, 6 > 5", x.fill(3, 3, 0), 2);
        due("spare", x.fill(3, 3, 1), 3);
        due("not all", x.fill(3, 7, 0), NONE);
        due("not all: spare", x.fill(3, 7, 1), NONE);
        due("no words", x.fill(3, 0, 0), NONE);
        due("no words: spare", x.fill(3, 0, 1), NONE);
        due("in 5, none wide enough", x.fill(5, 1, 0), NONE);
        due("below LEAST", x.fill(1, 1, 0), BAD);
        due("size 6", x.fill(6, 1, 0), BAD);
        due("size lowest", x.fill(LOWEST, 1, 0), BAD);
        due("bits of none", x.fill(2, 8, 0), BAD);
        due("bits below 0", x.fill(2, -1, 0), BAD);
        due("bits highest", x.fill(2, HIGHEST, 0), BAD);
        due("what 2", x.fill(2, 1, 2), BAD);
        due("what -1", x.fill(2, 1, -1), BAD);
        x.omits();
        x.smaller(2);
        due("from the beginning", x.fill(2, 7, 1), 1);
        due("nothing is changed", x.now(2), 12);
        due("no lines", read("w1 0 99 0 0;", 1).fill(1, 1, 0), NONE);
    }

    // Promise 16
    private static void greatest() {
        due("5", read("l5;w1 0 99 0 0;", 2).greatest(), 5);
        due("4", read("l4;w1 0 99 0 0;", 2).greatest(), 4);
        due("LEAST", read("l4;w1 0 99 0 0;z4;", 3).greatest(), 4);
        due("none that she can read", read("l4;w1 0 99 0 0;z5;", 3).greatest(), NONE);
        due("no lines", read("w1 0 99 0 0;", 1).greatest(), NONE);
        due("no pieces", read("l1;", 1).greatest(), 5);
        due("two, with the blank", read("l8;w1 0 99 0 0;w1 0 99 0 0;", 3).greatest(), 2);
    }

    // Promise 17
    private static void even() {
        EdgeOfCard x = read("l10;l3;w1 0 99 0 0;w1 0 99 0 0;z2;", 5);
        due("cost", x.even(-1), 0);
        due("line 0", x.even(0), 3);
        due("line 1", x.even(1), 3);
        due("line 2", x.even(2), BAD);
        due("line -2", x.even(-2), BAD);
        due("line lowest", x.even(LOWEST), BAD);
        EdgeOfCard y = read("l10;w11 0 99 0 0;", 2);
        due("cost of none", y.even(-1), NONE);
        due("size of none", y.even(0), NONE);
        due("BAD, though there is none", y.even(1), BAD);
        due("no lines, no pieces", read("", 0).even(-1), 0);
        due("no lines", read("w1 0 99 0 0;", 1).even(-1), NONE);
        due("no lines, line 0", read("w1 0 99 0 0;", 1).even(0), BAD);
        due("no pieces", read("l1;l1;", 2).even(1), 5);
    }

    // Promise 18
    private static void kept() {
        EdgeOfCard x = read("l10;w4 3 99 0 0;w5 3 99 0 0;w5 9 1 0 0;w4 3 99 0 0;", 5);
        due("worth", x.kept(1, 0), 6);
        due("fewest letters: 0 and 3", x.kept(1, 1), 9);
        due("worth in 2", x.kept(2, 0), 3);
        due("least bits", x.kept(2, 1), 1);
        due("in 3 none goes", x.kept(3, 1), 0);
        due("its worth", x.kept(3, 0), 0);
        due("size 0", x.kept(0, 0), BAD);
        due("size 6", x.kept(6, 0), BAD);
        due("what 2", x.kept(1, 2), BAD);
        due("what -1", x.kept(1, -1), BAD);
        due("below LEAST", read("z3;l9;", 2).kept(2, 0), BAD);
        EdgeOfCard y = read("l11;w4 3 99 0 0;w5 3 99 0 0;w5 9 1 0 0;w4 3 99 0 0;", 5);
        due("one that needs another", y.kept(1, 1), 6);
        due("worth", y.kept(1, 0), 12);
        due("worth 1 is more than nothing", read("l9;w9 1 99 0 0;", 2).kept(1, 1), 1);
        due("worth nothing, so left out", read("l9;w1 0 99 0 0;", 2).kept(1, 1), 0);
        due("no lines", read("w1 1 99 0 0;", 1).kept(1, 1), 0);
    }

    // Promise 19
    private static void telegram() {
        EdgeOfCard x = read("w4 3 99 0 0;w5 3 99 0 0;w5 9 1 0 0;w4 3 99 0 0;w1 1 99 0 0;", 5);
        due("none", x.telegram(0, 1), 0);
        due("its worth", x.telegram(0, 0), 0);
        due("one: fewest letters, least bits", x.telegram(1, 1), 1);
        due("two: what it needs", x.telegram(2, 1), 6);
        due("worth", x.telegram(2, 0), 12);
        due("three", x.telegram(3, 1), 7);
        due("four", x.telegram(4, 1), 15);
        due("all", x.telegram(5, 1), 31);
        due("more than there are", x.telegram(10, 0), 19);
        due("worth 1 is more than nothing", read("w9 1 99 0 0;", 1).telegram(1, 1), 1);
        due("worth nothing, so left out", read("w9 0 99 0 0;", 1).telegram(1, 1), 0);
        due("m 11", x.telegram(11, 0), BAD);
        due("m -1", x.telegram(-1, 0), BAD);
        due("what 2", x.telegram(1, 2), BAD);
        due("what -1", x.telegram(1, -1), BAD);
    }

    // Promise 20
    private static void begun() {
        EdgeOfCard x = read("l20;l9;w3 0 99 0 0;w2 0 99 0 0;w4 0 99 0 0;z2;", 6);
        due("from the edge", x.begun(2, 0), 3);
        due("no blank ahead of the first", x.begun(2, 8), 3);
        due("in 3", x.begun(3, 0), 2);
        due("2 lost in 3", x.begun(3, 2), 2);
        due("3 lost in 3: the second goes on line 1", x.begun(3, 3), 2);
        due("12 lost in 3: the first goes on line 1", x.begun(3, 12), 1);
        due("more than all lost", x.begun(3, 60), 1);
        due("in 5", x.begun(5, 0), 1);
        due("in 5, 6 lost", x.begun(5, 6), 0);
        due("far 61", x.begun(2, 61), BAD);
        due("far -1", x.begun(2, -1), BAD);
        due("far lowest", x.begun(2, LOWEST), BAD);
        due("below LEAST", x.begun(1, 0), BAD);
        due("size 6", x.begun(6, 0), BAD);
        due("no lines", read("w1 0 99 0 0;", 1).begun(1, 0), 0);
        due("no pieces", read("l9;", 1).begun(1, 0), 0);
    }

    private static void fraction(EdgeOfCard x, int size, int in10, long upper, long lower) {
        due("odds, upper", x.odds(size, in10, 0), upper);
        due("odds, lower", x.odds(size, in10, 1), lower);
    }

    // Promise 21
    private static void odds() {
        // 3 + 1 + 3: none or one may be longer
        EdgeOfCard x = read("l9;w3 0 99 0 0;w3 0 99 0 0;", 3);
        fraction(x, 1, 0, 1, 1);
        fraction(x, 1, 1, 99, 100);
        fraction(x, 1, 5, 3, 4);
        fraction(x, 1, 4, 21, 25);
        fraction(x, 1, 10, 0, 1);
        fraction(x, 2, 3, 0, 1);
        due("size 0", x.odds(0, 5, 0), BAD);
        due("size 6", x.odds(6, 5, 0), BAD);
        due("x 11", x.odds(1, 11, 0), BAD);
        due("x -1", x.odds(1, -1, 0), BAD);
        due("what 2", x.odds(1, 5, 2), BAD);
        due("what -1", x.odds(1, 5, -1), BAD);
        due("below LEAST", read("z3;", 1).odds(2, 5, 0), BAD);
        fraction(read("l1;", 1), 5, 7, 1, 1);
        fraction(read("w1 0 99 0 0;", 1), 1, 7, 0, 1);
        // ten words of 1 letter are 19 on a line of 20: none of the first 9 may be longer, the tenth never is
        fraction(read("l20;" + times("w1 0 99 0 0;", 10), 11), 1, 1, 387420489L, 1000000000L);
        // nine are 17: one of them may be longer, so 9^9 + 9 * 9^8 in 10^9
        fraction(read("l20;" + times("w1 0 99 0 0;", 9), 10), 1, 1, 387420489L, 500000000L);
    }

    // Promise 22
    private static void saw() {
        EdgeOfCard x = read("l9;l9;w1 0 99 0 0;w1 0 99 0 0;", 4);
        due("piece 2", x.saw(2, 0), BAD);
        due("piece -1", x.saw(-1, 0), BAD);
        due("line 2", x.saw(0, 2), BAD);
        due("line -1", x.saw(0, -1), BAD);
        due("piece highest", x.saw(HIGHEST, 0), BAD);
        for (int i = 1; i <= 6; i++) {
            due("saw", x.saw(1, 0), i);
        }
        due("a seventh", x.saw(0, 0), FULL);
        due("BAD ahead of FULL", x.saw(0, 2), BAD);
        due("seen", x.count(3), 6);
        due("no lines", read("w1 0 99 0 0;", 1).saw(0, 0), BAD);
    }

    // Promise 23
    private static void forget() {
        EdgeOfCard x = read("l9;l9;w1 0 99 0 0;", 3);
        x.saw(0, 1);
        x.saw(0, 0);
        due("none fits", x.sizes(), 0);
        due("forget", x.forget(), 2);
        due("forget again", x.forget(), 0);
        due("all fit", x.sizes(), 62);
        due("saw", x.saw(0, 0), 1);
    }

    // Promise 24
    private static void sizes() {
        EdgeOfCard x = read("l12;l12;l20;w2 0 99 0 0;w2 0 99 0 0;w3 0 99 0 0;", 6);
        // 1: all on 0; 2: 0, 0, 1; 3: 0, 1, 2; 4: 0, 1, 2; 5: 0, 1, 2
        due("nothing seen", x.sizes(), 62);
        x.saw(1, 0);
        due("1 on 0", x.sizes(), 6);
        x.saw(2, 1);
        due("2 on 1", x.sizes(), 4);
        x.saw(0, 2);
        due("none", x.sizes(), 0);
        x.forget();
        x.saw(2, 2);
        due("2 on 2", x.sizes(), 56);
        due("with LEAST", read("z4;l9;", 2).sizes(), 48);
        due("not all go on", read("l9;w3 0 99 0 0;", 2).sizes(), 14);
        due("no lines", read("w3 0 99 0 0;", 1).sizes(), 0);
    }

    // Promise 25
    private static void two() {
        EdgeOfCard x = read("w1 0 99 0 0;w1 0 0 0 0;w1 0 99 0 0;w1 0 1 0 0;w1 0 2 0 0;w1 0 3 0 0;", 6);
        int[] needing = {0, 3, 2, 3, 2, 1, 0};
        for (int i = 0; i < needing.length; i++) {
            due("two " + i, x.two(i), needing[i]);
        }
        due("two 7", x.two(7), BAD);
        due("two -1", x.two(-1), BAD);
        due("two lowest", x.two(LOWEST), BAD);
        due("no pieces", read("", 0).two(1), BAD);
    }

    // Promises 26 and 30
    private static void mark() {
        EdgeOfCard x = read("l60;l60;w9 4 99 0 3;w2 0 99 0 0;", 4);
        x.turnsOver();
        x.smaller(2);
        int[] marks = {9, 13, 6, 26, 7, 11};
        long[] traces = {1, 11, 101, 1011, 10101, 100001};
        long trace = 0;
        for (int kind = 0; kind < marks.length; kind++) {
            due("mark " + kind, x.mark(kind, 0), marks[kind]);
            trace += traces[kind];
            due("trace behind mark " + kind, x.trace(), trace);
        }
        due("piece 1", x.mark(3, 1), 4);
        due("kind 6", x.mark(6, 0), NO);
        due("kind -1", x.mark(-1, 0), NO);
        due("kind lowest", x.mark(LOWEST, 0), NO);
        due("piece 2", x.mark(0, 2), NO);
        due("piece -1", x.mark(5, -1), NO);
        due("piece highest", x.mark(1, HIGHEST), NO);
        due("trace", x.trace(), trace + 1011);
    }

    // Promises 27 and 28
    private static void images() {
        EdgeOfCard x = read("l60;l50;w1 0 99 0 0;w1 0 99 0 0;w1 0 99 0 0;", 5);
        due("image -1", x.keep(-1), BAD);
        due("image 2", x.keep(2), BAD);
        due("back -1", x.back(-1), BAD);
        due("back 2", x.back(2), BAD);
        due("none kept", x.back(1), STATE);
        x.writes();
        due("keep 0", x.keep(0), 1);
        due("none kept", x.back(1), STATE);
        x.omits();
        x.smaller(3);
        x.turnsOver();
        due("keep 1", x.keep(1), 2);
        x.saw(0, 0);
        x.mark(0, 0);
        x.type(65);
        due("back 0", x.back(0), 1);
        int[] nows = {1, 0, 55, 5, 0};
        for (int what = 0; what < nows.length; what++) {
            due("back: now " + what, x.now(what), nows[what]);
        }
        due("to be undone", x.count(4), 1);
        due("seen is as it was", x.count(3), 1);
        due("trace is as it was", x.trace(), 1);
        due("the text is as it was", x.count(5), 1);
        due("undo", x.undo(), 0);
        x.omits();
        x.omits();
        x.omits();
        due("keep has not changed", x.back(1), 2);
        int[] kept = {2, 1, 50, 3, 2};
        for (int what = 0; what < kept.length; what++) {
            due("back 1: now " + what, x.now(what), kept[what]);
        }
        due("undo turns", x.undo(), 3);
        due("undo smaller", x.undo(), 2);
        due("size", x.now(3), 5);
        due("undo omits", x.undo(), 1);
        due("left", x.now(2), 55);
        due("back 1 again", x.back(1), 2);
        due("to be undone again", x.count(4), 4);
        due("kept over the former", x.keep(0), 2);
        due("back 0", x.back(0), 2);
    }

    // Promise 29
    private static void count() {
        EdgeOfCard x = read("l9;l8;z3;w1 0 99 0 0;", 4);
        x.saw(0, 1);
        x.omits();
        x.turnsOver();
        x.smaller(4);
        x.type(1);
        int[] counts = {2, 1, 3, 1, 3, 1};
        for (int what = 0; what < counts.length; what++) {
            due("count " + what, x.count(what), counts[what]);
        }
        due("count 6", x.count(6), BAD);
        due("count -1", x.count(-1), BAD);
        due("count lowest", x.count(LOWEST), BAD);
    }

    // Promise 30
    private static void trace() {
        EdgeOfCard x = read("w1 0 99 0 0;", 1);
        for (int i = 0; i < 400; i++) {
            x.mark(5, 0);
        }
        due("trace", x.trace(), 40000400L);
        due("it stays", x.trace(), 40000400L);
    }
}
