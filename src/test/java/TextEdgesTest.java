/** The edges of the text and of what it tells: 'Terms' and promises 1 to 6, sentence by sentence. */
public final class TextEdgesTest {
    private static final int BAD = Cases.BAD, STATE = Cases.STATE, FULL = Cases.FULL, NONE = Cases.NONE;
    private static final String WORD = Cases.WORD;

    public static void main(String[] args) {
        Cases.says("1: As told; no LINES, no PIECES.", TextEdgesTest::newObject);
        Cases.says("2: A byte (0 .. 255) comes to THE TEXT: how many it has. BAD", TextEdgesTest::bytes);
        Cases.says("a text (200 bytes at most); 2: FULL", TextEdgesTest::twoHundredBytes);
        Cases.says("2: the first of these: BAD, FULL", TextEdgesTest::badAheadOfFull);
        Cases.says("3: THE TEXT is empty: how many bytes it had.", TextEdgesTest::clearing);
        Cases.says("LINES 0 .. (6 of them at most); a seventh line", TextEdgesTest::sixLines);
        Cases.says("WIDE (1 .. 60)", TextEdgesTest::widths);
        Cases.says("PIECES 0 .. (10 of them at most); an eleventh word", TextEdgesTest::tenPieces);
        Cases.says("LETTERS (1 .. 12)", TextEdgesTest::letters);
        Cases.says("WORTH (0 .. 9)", TextEdgesTest::worths);
        Cases.says("NEEDS (a PIECE told ahead; 99: none)", TextEdgesTest::needs);
        Cases.says("SIGN (1 .. 12; 0: none)", TextEdgesTest::signLetters);
        Cases.says("BREAK (1 .. LETTERS less 1; 0: not)", TextEdgesTest::breakPlaces);
        Cases.says("LEAST size (1 .. 5; 1 at first)", TextEdgesTest::leasts);
        Cases.says("z N (least, once at most); z told again", TextEdgesTest::leastOnce);
        Cases.says("blanks (32) between TOKENS", TextEdgesTest::blanks);
        Cases.says("TOKENS are letters a .. z side by side", TextEdgesTest::letterTokens);
        Cases.says("letters that begin no ITEM", TextEdgesTest::lettersOfNoItem);
        Cases.says("a byte that begins none", TextEdgesTest::otherBytes);
        Cases.says("a NUMBER above 99", TextEdgesTest::longNumbers);
        Cases.says("a NUMBER with a 0 ahead of others", TextEdgesTest::zerosAhead);
        Cases.says("ITEMS, each letters and what is told, ended by ;", TextEdgesTest::itemsOfTokens);
        Cases.says("the text's length, if it ends too early", TextEdgesTest::endsTooEarly);
        Cases.says("the first TOKEN that can't stand there", TextEdgesTest::firstOfSeveral);
        Cases.says("4: THE TEXT tells all, and is empty then: how many ITEMS.", TextEdgesTest::howManyItems);
        Cases.says("4: -10 less FAULT: nothing changes.", TextEdgesTest::faultChangesNothing);
        Cases.says("Read anew: as told, nothing written, ..", TextEdgesTest::readAnew);
        Cases.says("5: How WIDE a LINE is. BAD.", TextEdgesTest::lines);
        Cases.says("6: Of a PIECE: 0 LETTERS, .. 5 whether it was OMITTED. BAD.", TextEdgesTest::words);
        Cases.end("TextEdgesTest");
    }

    private static void due(String call, long got, long want) {
        Cases.due(call, got, want);
    }

    private static EdgeOfCard read(String text) {
        return Cases.read(text);
    }

    /** The text has a FAULT at this place; nothing changes, of a card told ahead neither. */
    private static void fault(String text, int place) {
        String call = "card of '" + text + "'";
        Cases.changesNothing(call, x -> Cases.typeAll(x, text), EdgeOfCard::card, -10 - place);
        Cases.changesNothing(call, x -> {
            Cases.tell(x, "z2;l20;l9;w2 1 99 3 1;w1 2 0 0 0;");
            x.writes();
            x.keep(0);
            x.omits();
            x.saw(1, 0);
            Cases.typeAll(x, text);
        }, EdgeOfCard::card, -10 - place);
    }

    // ---- the text itself

    private static void newObject() {
        EdgeOfCard x = new EdgeOfCard();
        due("LINES", x.count(0), 0);
        due("PIECES", x.count(1), 0);
        due("LEAST, 1 at first", x.count(2), 1);
        due("SEEN", x.count(3), 0);
        due("to be UNDONE", x.count(4), 0);
        due("bytes", x.count(5), 0);
        due("next PIECE, 0 at first", x.now(0), 0);
        due("LINE, 0 at first", x.now(1), 0);
        due("LEFT, 0 without LINES", x.now(2), 0);
        due("SIZE, 5 at first", x.now(3), 5);
        due("OMITTED", x.now(4), 0);
        due("THE TRACE", x.trace(), 0);
        due("line 0", x.line(0), BAD);
        due("word 0", x.word(0, 0), BAD);
        due("image 0", x.back(0), STATE);
        due("image 1", x.back(1), STATE);
        due("fill of none", x.fill(1, 0, 0), NONE);
        due("fill of PIECE 0", x.fill(1, 1, 0), BAD);
        due("two 0", x.two(0), 0);
        due("two 1", x.two(1), BAD);
        due("even -1", x.even(-1), 0);
        due("even 0", x.even(0), BAD);
        Cases.leavesAsTwin("card of no text", y -> { }, y -> due("card", y.card(), 0), y -> { });
    }

    private static void bytes() {
        int[] wrongs = {-1, -2, -256, 256, 257, 256 + 'l', -256 + 'l', 65536, Cases.LOWEST, Cases.HIGHEST};
        for (int wrong : wrongs) {
            Cases.changesNothing("type " + wrong, Cases::inTheMidst, x -> x.type(wrong), BAD);
            due("type " + wrong, new EdgeOfCard().type(wrong), BAD);
        }
        EdgeOfCard x = new EdgeOfCard();
        int[] rights = {0, 1, 127, 128, 254, 255};
        for (int i = 0; i < rights.length; i++) {
            due("type " + rights[i], x.type(rights[i]), i + 1);
            due("bytes", x.count(5), i + 1);
        }
    }

    private static void twoHundredBytes() {
        EdgeOfCard x = new EdgeOfCard();
        for (int i = 1; i <= 198; i++) {
            x.type(' ');
        }
        due("the 199th", x.type('l'), 199);
        due("the 200th", x.type('5'), 200);
        due("the 201st", x.type(';'), FULL);
        due("again", x.type(';'), FULL);
        due("bytes", x.count(5), 200);
        due("the text ends without it", x.card(), -210);
        due("clear", x.clear(), 200);
        due("the first again", x.type(' '), 1);
        Cases.changesNothing("type into a full text", Cases::full, y -> y.type(';'), FULL);
        Cases.changesNothing("type 0 into a full text", Cases::full, y -> y.type(0), FULL);
        Cases.changesNothing("type 255 into a full text", Cases::full, y -> y.type(255), FULL);
    }

    private static void badAheadOfFull() {
        Cases.changesNothing("type -1 into a full text", Cases::full, x -> x.type(-1), BAD);
        Cases.changesNothing("type 256 into a full text", Cases::full, x -> x.type(256), BAD);
    }

    private static void clearing() {
        Cases.changesNothing("clear of nothing", x -> Cases.tell(x, "l9;" + WORD), EdgeOfCard::clear, 0);
        for (int many : new int[] {1, 2, 199, 200}) {
            EdgeOfCard x = new EdgeOfCard();
            Cases.typeAll(x, "?".repeat(many));
            due("clear of " + many, x.clear(), many);
            due("bytes", x.count(5), 0);
            due("clear again", x.clear(), 0);
            due("card of nothing", x.card(), 0);
        }
        Cases.leavesAsTwin("clear, and the same text again", Cases::inTheMidst, x -> {
            due("clear", x.clear(), 18);
            Cases.typeAll(x, "l7;z4;w2 1 99 0 1;");
        }, x -> { });
    }

    // ---- what is told

    private static void sixLines() {
        due("none", read("").count(0), 0);
        due("five", read("l9;".repeat(5)).count(0), 5);
        EdgeOfCard x = read("l11;l12;l13;l14;l15;l16;");
        due("six", x.count(0), 6);
        due("the sixth", x.line(5), 16);
        due("no seventh", x.line(6), BAD);
        fault("l9;".repeat(6) + "l", 18);
        fault("l9;".repeat(7), 18);
        fault("l9;".repeat(6) + "  l 99;", 20);
        fault("l9;".repeat(8), 18);
        due("a word behind six", read("l9;".repeat(6) + WORD).count(1), 1);
        due("z behind six", read("l9;".repeat(6) + "z2;").count(2), 2);
    }

    private static void widths() {
        fault("l0;", 1);
        due("1", read("l1;").line(0), 1);
        due("2", read("l2;").line(0), 2);
        due("59", read("l59;").line(0), 59);
        due("60", read("l60;").line(0), 60);
        fault("l61;", 1);
        fault("l62;", 1);
        fault("l99;", 1);
        fault("l60;l0;", 5);
        fault("l1;l61;", 4);
    }

    private static void tenPieces() {
        due("none", read("l9;").count(1), 0);
        due("nine", read(WORD.repeat(9)).count(1), 9);
        EdgeOfCard x = read(WORD.repeat(9) + "w7 0 99 0 0;");
        due("ten", x.count(1), 10);
        due("the tenth", x.word(9, 0), 7);
        due("no eleventh", x.word(10, 0), BAD);
        fault(WORD.repeat(10) + "w", 120);
        fault(WORD.repeat(11), 120);
        fault(WORD.repeat(10) + " w 99", 121);
        fault(WORD.repeat(12), 120);
        due("a line behind ten", read(WORD.repeat(10) + "l3;").line(0), 3);
    }

    private static void letters() {
        fault("w0 0 99 0 0;", 1);
        for (int letters : new int[] {1, 2, 11, 12}) {
            due("LETTERS", read("w" + letters + " 0 99 0 0;").word(0, 0), letters);
        }
        fault("w13 0 99 0 0;", 1);
        fault("w14 0 99 0 0;", 1);
        fault(WORD + "w 0 0 99 0 0;", 14);
    }

    private static void worths() {
        for (int worth : new int[] {0, 1, 8, 9}) {
            due("WORTH", read("w1 " + worth + " 99 0 0;").word(0, 1), worth);
        }
        fault("w1 10 99 0 0;", 3);
        fault("w1 11 99 0 0;", 3);
        fault("w1 99 99 0 0;", 3);
    }

    private static void needs() {
        for (int told = 0; told < 10; told++) {
            String ahead = WORD.repeat(told);
            int place = ahead.length() + 5;
            fault(ahead + "w1 0 " + told + " 0 0;", place);
            fault(ahead + "w1 0 " + (told + 1) + " 0 0;", place);
            due("99: none", read(ahead + "w1 0 99 0 0;").word(told, 2), 99);
            if (told > 0) {
                due("the one ahead", read(ahead + "w1 0 " + (told - 1) + " 0 0;").word(told, 2), told - 1);
                due("the first", read(ahead + "w1 0 0 0 0;").word(told, 2), 0);
            }
        }
        fault("w1 0 98 0 0;", 5);
        fault("w1 0 100 0 0;", 5);
    }

    private static void signLetters() {
        for (int sign : new int[] {0, 1, 2, 11, 12}) {
            due("SIGN", read("w1 0 99 " + sign + " 0;").word(0, 3), sign);
        }
        fault("w1 0 99 13 0;", 8);
        fault("w12 0 99 14 0;", 9);
    }

    private static void breakPlaces() {
        for (int letters = 1; letters <= 12; letters++) {
            String ahead = "w" + letters + " 0 99 0 ";
            due("0: not", read(ahead + "0;").word(0, 4), 0);
            if (letters > 1) {
                due("behind the first", read(ahead + "1;").word(0, 4), 1);
                due("LETTERS less 1", read(ahead + (letters - 1) + ";").word(0, 4), letters - 1);
            }
            fault(ahead + letters + ";", ahead.length());
            fault(ahead + (letters + 1) + ";", ahead.length());
        }
        // The PIECE's own LETTERS count, not those of one told ahead.
        fault("w9 0 99 0 8;w2 0 99 0 2;", 22);
        due("behind a shorter one", read("w2 0 99 0 1;w9 0 99 0 8;").word(1, 4), 8);
    }

    private static void leasts() {
        due("1 at first", new EdgeOfCard().count(2), 1);
        due("1 if not told", read("l9;").count(2), 1);
        fault("z0;", 1);
        for (int least = 1; least <= 5; least++) {
            due("LEAST", read("z" + least + ";").count(2), least);
        }
        fault("z6;", 1);
        fault("z7;", 1);
        fault("z99;", 1);
        due("a text that tells all, without z", Cases.tell(read("z4;"), "l9;").count(2), 1);
    }

    private static void leastOnce() {
        due("once, first", read("z3;l9;" + WORD).count(2), 3);
        due("once, between", read("l9;z3;" + WORD).count(2), 3);
        due("once, last", read("l9;" + WORD + "z3;").count(2), 3);
        fault("z3;z3;", 3);
        fault("z1;z1;", 3);
        fault("z3; z", 4);
        fault("z3;l9;z4;", 6);
        due("again in another text", Cases.tell(read("z3;"), "z4;").count(2), 4);
    }

    // ---- TOKENS

    private static void blanks() {
        due("none where none is needed", read("l5;w1 0 99 0 0;z2;").count(1), 1);
        due("ahead, behind and between", read("  l  5  ;  w  1  0  99  0  0  ;  z  2  ;  ").count(2), 2);
        due("as many as go", read(" ".repeat(196) + "l5;").line(0), 5);
        due("as many as go, behind", read("l5;" + " ".repeat(197)).line(0), 5);
        for (char other : new char[] {31, 33, 9, 10, 13, 0, 160}) {
            fault("l5;" + other, 3);
            fault(other + "l5;", 0);
            fault("l" + other + "5;", 1);
            fault("l5" + other + ";", 2);
        }
        // A blank ends a NUMBER and letters.
        fault("l1 2;", 3);
        fault("l l5;", 2);
    }

    private static void letterTokens() {
        fault("ll5;", 0);
        fault("l5;ll5;", 3);
        fault("lz5;", 0);
        fault("zl5;", 0);
        fault("ww1 0 99 0 0;", 0);
        fault("la5;", 0);
        fault("lx", 0);
        due("letters and a NUMBER side by side", read("l5;").line(0), 5);
        fault("l5l;", 2);
        fault("l5a;", 2);
        fault("L5;", 0);
        fault("l5;W1 0 99 0 0;", 3);
        fault("lZ;", 1);
    }

    private static void lettersOfNoItem() {
        for (char letter = 'a'; letter <= 'z'; letter++) {
            if (letter != 'l' && letter != 'w' && letter != 'z') {
                fault(letter + "5;", 0);
                fault("l5; " + letter, 4);
            }
        }
    }

    private static void otherBytes() {
        // Next to a and z, to 0 and 9, to ; and to a blank; and with a right byte's lower bits.
        char[] others = {'a' - 1, 'z' + 1, '0' - 1, '9' + 1, ';' + 1, 31, 33, 0, 127, 255, 'l' + 128, '5' + 128,
            ';' + 128, ' ' + 128};
        for (char other : others) {
            fault(other + "", 0);
            fault(other + "l5;", 0);
            fault("l" + other + ";", 1);
            fault("l5" + other, 2);
            fault("l5;" + other, 3);
            fault("w1 0 99 0 " + other + ";", 10);
        }
    }

    private static void longNumbers() {
        due("99", read("w1 0 99 0 0;").word(0, 2), 99);
        fault("w1 0 100 0 0;", 5);
        fault("w1 0 101 0 0;", 5);
        fault("l100;", 1);
        fault("l999;", 1);
        // What would be a right NUMBER again if it wrapped round at 8, 16, 32 or 64 bits.
        fault("l257;", 1);
        fault("l65537;", 1);
        fault("l4294967297;", 1);
        fault("l18446744073709551617;", 1);
        fault("l" + "9".repeat(199), 1);
        // Wherever it stands, it is that TOKEN's place.
        fault("100", 0);
        fault("  100;", 2);
        fault("l5 100;", 3);
        fault("l5;100;", 3);
        fault("l100", 1);
    }

    private static void zerosAhead() {
        due("0 alone", read("w1 0 99 0 0;").word(0, 1), 0);
        due("0 behind others", read("l10;").line(0), 10);
        fault("l05;", 1);
        fault("l00;", 1);
        fault("l010;", 1);
        fault("w1 00 99 0 0;", 3);
        fault("w1 0 099 0 0;", 5);
        fault("w1 0 99 00 0;", 8);
        fault("w1 0 99 0 00;", 10);
        fault("l5;00", 3);
        fault("l5 00;", 3);
        fault("l05", 1);
    }

    private static void itemsOfTokens() {
        fault(";", 0);
        fault("5;", 0);
        fault("l;", 1);
        fault("l5 6;", 3);
        fault("l5;;", 3);
        fault("l5 l6;", 3);
        fault("z;", 1);
        fault("z2 2;", 3);
        fault("z2 l5;", 3);
        fault("z z2;", 2);
        String[] numbers = {"1", "0", "99", "0", "0"};
        StringBuilder ahead = new StringBuilder("w");
        for (String number : numbers) {
            fault(ahead + ";", ahead.length());
            fault(ahead + " l", ahead.length() + 1);
            ahead.append(' ').append(number);
        }
        fault(ahead + " 0;", ahead.length() + 1);
        fault(ahead + " w", ahead.length() + 1);
        // Letters are no NUMBERS, whatever number their bytes have.
        for (char letter = 'a'; letter <= 'z'; letter++) {
            fault("l " + letter + ";", 2);
            fault("w1 0 " + letter + " 0 0;", 5);
            fault("w1 0 99 0 0 " + letter, 12);
        }
        due("five", read(ahead + ";").count(1), 1);
    }

    private static void endsTooEarly() {
        String text = " z 3 ; l 12;l1; w 5 7 99 2 3;w12 0 0 12 11 ;";
        int firstOf99 = text.indexOf("99") + 1;
        int items = 0;
        for (int length = 0; length <= text.length(); length++) {
            String part = text.substring(0, length);
            int behindItem = part.lastIndexOf(';') + 1;
            if (part.endsWith(";")) {
                items++;
            }
            if (part.substring(behindItem).isBlank()) {
                EdgeOfCard x = new EdgeOfCard();
                Cases.typeAll(x, part);
                due("card of '" + part + "'", x.card(), items);
            } else if (length == firstOf99) {
                // There it is a NUMBER that can't stand there, not a text that ends too early.
                fault(part, length - 1);
            } else {
                fault(part, length);
            }
        }
        due("all of it", items, 5);
        fault("l ", 2);
        fault("l 5  ", 5);
        fault("l" + " ".repeat(198), 199);
        fault("l" + " ".repeat(199), 200);
        fault(" ".repeat(199) + "l", 200);
        fault(" ".repeat(198) + "l5", 200);
        due("just in time", read(" ".repeat(197) + "l5;").line(0), 5);
    }

    private static void firstOfSeveral() {
        fault("l61;l61;", 1);
        fault("l61 *", 1);
        fault("l* 61", 1);
        fault("* l61;", 0);
        fault("l5 100 *;", 3);
        fault("a *", 0);
        fault("l61", 1);
        fault("l5;w13 10 98 13 12", 4);
        fault("w12 10 98 13 12;", 4);
        fault("w12 9 98 13 12;", 6);
        fault("w12 9 99 13 12;", 9);
        fault("w12 9 99 12 12;", 12);
    }

    // ---- card()

    private static void howManyItems() {
        due("none", read("").count(5), 0);
        read("   ");
        read("l9;");
        read("z5;");
        EdgeOfCard x = read("l9;".repeat(6) + WORD.repeat(10) + "z2;");
        due("bytes", x.count(5), 0);
        due("LINES", x.count(0), 6);
        due("an empty text tells that there is nothing", x.card(), 0);
        due("LINES", x.count(0), 0);
        due("PIECES", x.count(1), 0);
        due("LEAST", x.count(2), 1);
        due("clear", x.clear(), 0);
        Cases.leavesAsTwin("card of an empty text", y -> { }, y -> {
            Cases.tell(y, "z3;l9;" + WORD);
            y.omits();
            y.keep(0);
            y.saw(0, 0);
            due("card", y.card(), 0);
        }, y -> { });
    }

    private static void faultChangesNothing() {
        Cases.changesNothing("card of a full text", x -> {
            Cases.full(x);
            x.clear();
            Cases.typeAll(x, "l7;z2;" + WORD + "*");
        }, EdgeOfCard::card, -28);
        Cases.changesNothing("card, twice", x -> {
            Cases.inTheMidst(x);
            Cases.typeAll(x, "l1");
        }, x -> {
            due("card", x.card(), -30);
            return x.card();
        }, -30);
        // A refused text goes on where it ended.
        EdgeOfCard x = new EdgeOfCard();
        Cases.typeAll(x, "l1");
        due("too early", x.card(), -12);
        x.type('2');
        due("too early", x.card(), -13);
        x.type(';');
        due("sound now", x.card(), 1);
        due("WIDE", x.line(0), 12);
    }

    private static void readAnew() {
        String text = "l30;l7;w2 3 99 1 1;w3 0 0 0 0;";
        Cases.leavesAsTwin("read anew", x -> { }, x -> {
            Cases.inTheMidst(x);
            Cases.tell(x, text);
        }, x -> {
            // THE TRACE is not of the card: the twin has the same.
            Cases.tell(x, WORD);
            x.mark(3, 0);
            Cases.tell(x, text);
        });
        EdgeOfCard x = new EdgeOfCard();
        Cases.inTheMidst(x);
        Cases.tell(x, text);
        due("next PIECE", x.now(0), 0);
        due("LINE", x.now(1), 0);
        due("LEFT", x.now(2), 30);
        due("SIZE 5", x.now(3), 5);
        due("OMITTED", x.now(4), 0);
        due("nothing SEEN", x.count(3), 0);
        due("nothing to be UNDONE", x.count(4), 0);
        due("undo", x.undo(), STATE);
        due("LEAST", x.count(2), 1);
        due("IMAGE 0 is gone", x.back(0), STATE);
        due("IMAGE 1 is gone", x.back(1), STATE);
        due("keep", x.keep(1), 0);
        due("IMAGE 0 is gone still", x.back(0), STATE);
        Cases.leavesAsTwin("without LINES", y -> { }, y -> {
            Cases.tell(y, "l9;l8;" + WORD);
            y.turnsOver();
            Cases.tell(y, WORD);
        }, y -> Cases.tell(y, WORD));
    }

    // ---- line(), word()

    private static void lines() {
        EdgeOfCard x = read("l1;l2;l30;l40;l59;l60;");
        int[] wide = {1, 2, 30, 40, 59, 60};
        for (int l = 0; l < wide.length; l++) {
            due("line " + l, x.line(l), wide[l]);
        }
        due("line -1", x.line(-1), BAD);
        due("line 6", x.line(6), BAD);
        for (int many = 0; many < 6; many++) {
            EdgeOfCard y = read("l9;".repeat(many));
            due("the last", y.line(many - 1), many == 0 ? BAD : 9);
            due("behind the last", y.line(many), BAD);
        }
        // What an earlier card had there is no LINE any more.
        due("line 1 of a shorter card", Cases.tell(x, "l5;").line(1), BAD);
    }

    private static void words() {
        EdgeOfCard x = read("w1 0 99 0 0;w12 9 0 12 11;");
        int[][] told = {{1, 0, 99, 0, 0, 0}, {12, 9, 0, 12, 11, 0}};
        for (int w = 0; w <= 1; w++) {
            due("what -1", x.word(w, -1), BAD);
            for (int what = 0; what <= 5; what++) {
                due("word " + w + ", " + what, x.word(w, what), told[w][what]);
            }
            due("what 6", x.word(w, 6), BAD);
        }
        for (int what = -1; what <= 6; what++) {
            due("word -1", x.word(-1, what), BAD);
            due("word 2", x.word(2, what), BAD);
        }
        due("omits", x.omits(), 1);
        due("OMITTED", x.word(0, 5), 1);
        due("the next one is not", x.word(1, 5), 0);
        due("omits", x.omits(), 2);
        due("OMITTED", x.word(1, 5), 1);
        EdgeOfCard y = read(WORD.repeat(10));
        due("the tenth", y.word(9, 0), 1);
        due("no eleventh", y.word(10, 0), BAD);
        due("word 1 of a shorter card", Cases.tell(y, WORD).word(1, 0), BAD);
    }
}
