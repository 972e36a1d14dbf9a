/**
 * Words on a card: told by a text, written one by one, or filled in a size from the beginning.
 * The terms (PIECE, LINE, WIDE, LEFT ..) are those of the document.
 */
public final class EdgeOfCard {
    public static final int BAD = -1, STATE = -2, FULL = -3, NONE = -9;
    public static final int NO = -1000000;

    private static final int TEXT_BYTES = 200;
    private static final int FIRST_FAULT = -10;
    private static final int NO_FAULT = -1;
    private static final int MOST_LINES = 6;
    private static final int WIDEST = 60;
    private static final int MOST_PIECES = 10;
    private static final int LARGEST_SIZE = 5;
    /** In a size's place: all goes ON. */
    private static final int WITHOUT_LINES = 0;
    private static final int MOST_UNDONE = 12;
    private static final int MOST_SEEN = 6;
    private static final int MOST_LONGER = 9;
    private static final int MORE_LETTERS = 2;
    private static final int NEEDS_NOTHING = 99;

    /** What word() asks of a PIECE, in the order in which the text tells it. */
    private static final int LETTERS = 0, WORTH = 1, NEEDS = 2, SIGN = 3, BREAK = 4, TOLD_OF_PIECE = 5;

    private final Text text = new Text();
    private final Told told = new Told();
    private final Told draft = new Told();
    private final Filling filling = new Filling(told);
    private final Hand hand = new Hand(told);
    private final Hand firstImage = new Hand(told);
    private final Hand secondImage = new Hand(told);
    private int imagesKept;
    private final int[] seenPieces = new int[MOST_SEEN];
    private final int[] seenLines = new int[MOST_SEEN];
    private int seen;
    private long traced;

    public EdgeOfCard() {
    }

    // ---- the card

    public int type(int c) {
        if (!within(c, 0, 255)) {
            return BAD;
        }
        return text.add(c) ? text.length : FULL;
    }

    public int clear() {
        int had = text.length;
        text.length = 0;
        return had;
    }

    public int card() {
        // A text with a FAULT may change nothing, so it is told to a draft first.
        int fault = text.tellTo(draft);
        if (fault != NO_FAULT) {
            return FIRST_FAULT - fault;
        }
        told.become(draft);
        text.length = 0;
        hand.begin();
        imagesKept = 0;
        seen = 0;
        return text.items;
    }

    public int line(int l) {
        return told.hasLine(l) ? told.wideOf(l) : BAD;
    }

    public int word(int w, int what) {
        if (!told.hasPiece(w) || !within(what, 0, 5)) {
            return BAD;
        }
        return what < TOLD_OF_PIECE ? told.of(w, what) : bit(hand.omitted, w);
    }

    // ---- writing

    public int writes() {
        return hand.canWrite() ? hand.put(told.of(hand.next, LETTERS)) : STATE;
    }

    public int signs() {
        if (!hand.canWrite() || told.of(hand.next, SIGN) == 0) {
            return STATE;
        }
        return hand.put(told.of(hand.next, SIGN));
    }

    public int breaks() {
        if (!hand.canWrite() || told.of(hand.next, BREAK) == 0) {
            return STATE;
        }
        int first = told.of(hand.next, BREAK);
        return hand.putBroken(first, told.of(hand.next, LETTERS) - first);
    }

    public int omits() {
        return hand.hasNext() ? hand.leaveOut() : STATE;
    }

    public int smaller(int size) {
        if (!within(size, 1, LARGEST_SIZE)) {
            return BAD;
        }
        if (size >= hand.size || size < told.least) {
            return STATE;
        }
        return hand.shrink(size);
    }

    public int turnsOver() {
        return told.hasLine(hand.onLine + 1) ? hand.turn() : STATE;
    }

    public int undo() {
        return hand.known > 0 ? hand.takeBack() : STATE;
    }

    public int now(int what) {
        switch (what) {
            case 0: return hand.next;
            case 1: return hand.onLine;
            case 2: return hand.left;
            case 3: return hand.size;
            case 4: return hand.omitted;
            case 5: return makingSense();
            case 6: return told.sum(makingSense(), WORTH);
            default: return BAD;
        }
    }

    /** As bits. NEEDS are told ahead, so the bit of what a PIECE needs is known by then. */
    private int makingSense() {
        int sense = 0;
        for (int w = 0; w < hand.next; w++) {
            boolean needMakesSense = !told.needsAny(w) || bit(sense, told.of(w, NEEDS)) == 1;
            if (bit(hand.omitted, w) == 0 && needMakesSense) {
                sense |= 1 << w;
            }
        }
        return sense;
    }

    // ---- sizes

    public int fill(int size, int words, int what) {
        if (!isSize(size) || !within(words, 0, told.all()) || !within(what, 0, 1)) {
            return BAD;
        }
        if (words == 0 || !filling.goesOn(size, words, 0)) {
            return NONE;
        }
        return what == 0 ? filling.onLine : filling.left;
    }

    public int greatest() {
        for (int size = LARGEST_SIZE; size >= told.least; size--) {
            if (filling.goesOn(size, told.all(), 0)) {
                return size;
            }
        }
        return NONE;
    }

    /**
     * A lesser size on a LINE never puts a PIECE further on. So where any sizes go ON, the least of them
     * on all LINES does too, at COST 0; steps cost more than that: EVEN is GREATEST on every LINE.
     */
    public int even(int l) {
        if (l != -1 && !told.hasLine(l)) {
            return BAD;
        }
        int size = greatest();
        return l == -1 && size != NONE ? 0 : size;
    }

    public int kept(int size, int what) {
        if (!isSize(size) || !within(what, 0, 1)) {
            return BAD;
        }
        int best = bestSet(size, MOST_PIECES);
        return what == 0 ? told.sum(best, WORTH) : best;
    }

    public int telegram(int m, int what) {
        if (!within(m, 0, MOST_PIECES) || !within(what, 0, 1)) {
            return BAD;
        }
        int best = bestSet(WITHOUT_LINES, m);
        return what == 0 ? told.sum(best, WORTH) : best;
    }

    /** Sets are tried from the least bits on, so an equal one that comes later is not better. */
    private int bestSet(int size, int most) {
        int best = 0;
        int bestWorth = 0;
        int bestLetters = 0;
        for (int set = 1; set <= told.all(); set++) {
            if (Integer.bitCount(set) > most || !told.hasItsNeeds(set)) {
                continue;
            }
            int worth = told.sum(set, WORTH);
            int letters = told.sum(set, LETTERS);
            boolean better = worth > bestWorth || worth == bestWorth && letters < bestLetters;
            if (better && (size == WITHOUT_LINES || filling.goesOn(size, set, 0))) {
                best = set;
                bestWorth = worth;
                bestLetters = letters;
            }
        }
        return best;
    }

    public int begun(int size, int far) {
        if (!isSize(size) || !within(far, 0, WIDEST)) {
            return BAD;
        }
        return filling.howFar(size, far);
    }

    public long odds(int size, int x, int what) {
        if (!isSize(size) || !within(x, 0, 10) || !within(what, 0, 1)) {
            return BAD;
        }
        int open = Math.min(told.pieces, MOST_LONGER);
        long upper = 0;
        for (int longer = 0; longer < 1 << open; longer++) {
            if (filling.goesOn(size, told.all(), longer)) {
                int many = Integer.bitCount(longer);
                upper += power(x, many) * power(10 - x, open - many);
            }
        }
        return leastTerm(upper, open, what);
    }

    /** Of upper / 10^tens: 10^tens has no prime factors but 2 and 5, each of them tens times. */
    private static long leastTerm(long upper, int tens, int what) {
        long lower = power(10, tens);
        for (int i = 0; i < tens; i++) {
            if (upper % 2 == 0) {
                upper /= 2;
                lower /= 2;
            }
            if (upper % 5 == 0) {
                upper /= 5;
                lower /= 5;
            }
        }
        return what == 0 ? upper : lower;
    }

    private static long power(int base, int times) {
        long product = 1;
        for (int i = 0; i < times; i++) {
            product *= base;
        }
        return product;
    }

    // ---- a hand read back

    public int saw(int w, int l) {
        if (!told.hasPiece(w) || !told.hasLine(l)) {
            return BAD;
        }
        if (seen >= MOST_SEEN) {
            return FULL;
        }
        seenPieces[seen] = w;
        seenLines[seen] = l;
        seen++;
        return seen;
    }

    public int forget() {
        int had = seen;
        seen = 0;
        return had;
    }

    public int sizes() {
        int bits = 0;
        for (int size = told.least; size <= LARGEST_SIZE; size++) {
            if (filling.goesOn(size, told.all(), 0) && isAsSeen()) {
                bits |= 1 << size;
            }
        }
        return bits;
    }

    private boolean isAsSeen() {
        for (int i = 0; i < seen; i++) {
            if (filling.lineOfPiece(seenPieces[i]) != seenLines[i]) {
                return false;
            }
        }
        return true;
    }

    public int two(int i) {
        if (!within(i, 0, told.pieces)) {
            return BAD;
        }
        int early = 0;
        for (int w = i; w < told.pieces; w++) {
            // NEEDS are told ahead: one is on the first card, or its own NEEDS were looked at by now.
            int needed = told.of(w, NEEDS);
            if (told.needsAny(w) && (needed < i || bit(early, needed) == 1)) {
                early |= 1 << w;
            }
        }
        return Integer.bitCount(early);
    }

    // ---- kinds, images

    public int mark(int kind, int w) {
        if (!told.hasPiece(w)) {
            return NO;
        }
        switch (kind) {
            case 0: return asPiece(w);
            case 1: return asShort(w);
            case 2: return asLong(w);
            case 3: return asSign(w);
            case 4: return asMargin(w);
            case 5: return asKiss(w);
            default: return NO;
        }
    }

    private int asPiece(int w) {
        traced += 1;
        return told.of(w, LETTERS);
    }

    private int asShort(int w) {
        traced += 10;
        return asPiece(w) + told.of(w, WORTH);
    }

    private int asLong(int w) {
        traced += 100;
        return asPiece(w) - told.of(w, BREAK);
    }

    private int asSign(int w) {
        traced += 1000;
        return asShort(w) * 2;
    }

    private int asMargin(int w) {
        traced += 10000;
        return asLong(w) + hand.onLine;
    }

    private int asKiss(int w) {
        traced += 100000;
        return asPiece(w) + hand.size;
    }

    public int keep(int image) {
        if (!within(image, 0, 1)) {
            return BAD;
        }
        imageOf(image).become(hand);
        imagesKept |= 1 << image;
        return hand.next;
    }

    public int back(int image) {
        if (!within(image, 0, 1)) {
            return BAD;
        }
        if (bit(imagesKept, image) == 0) {
            return STATE;
        }
        hand.become(imageOf(image));
        return hand.next;
    }

    private Hand imageOf(int image) {
        return image == 0 ? firstImage : secondImage;
    }

    public int count(int what) {
        switch (what) {
            case 0: return told.lines;
            case 1: return told.pieces;
            case 2: return told.least;
            case 3: return seen;
            case 4: return hand.known;
            case 5: return text.length;
            default: return BAD;
        }
    }

    public long trace() {
        return traced;
    }

    private boolean isSize(int size) {
        return within(size, told.least, LARGEST_SIZE);
    }

    private static boolean within(int number, int low, int high) {
        return number >= low && number <= high;
    }

    private static int bit(int bits, int place) {
        return bits >> place & 1;
    }

    /** What a text has told: LINES, PIECES, LEAST. */
    private static final class Told {
        private final int[] wide = new int[MOST_LINES];
        private final int[] words = new int[MOST_PIECES * TOLD_OF_PIECE];
        private int lines;
        private int pieces;
        private int least = 1;

        void erase() {
            lines = 0;
            pieces = 0;
            least = 1;
        }

        void become(Told other) {
            System.arraycopy(other.wide, 0, wide, 0, wide.length);
            System.arraycopy(other.words, 0, words, 0, words.length);
            lines = other.lines;
            pieces = other.pieces;
            least = other.least;
        }

        void addLine(int width) {
            if (lines < MOST_LINES) {
                wide[lines] = width;
                lines++;
            }
        }

        void addPiece(int[] numbers) {
            if (pieces < MOST_PIECES && numbers.length >= TOLD_OF_PIECE) {
                System.arraycopy(numbers, 0, words, pieces * TOLD_OF_PIECE, TOLD_OF_PIECE);
                pieces++;
            }
        }

        boolean hasLine(int l) {
            return within(l, 0, lines - 1);
        }

        boolean hasPiece(int w) {
            return within(w, 0, pieces - 1);
        }

        int wideOf(int l) {
            return hasLine(l) ? wide[l] : 0;
        }

        int of(int w, int what) {
            return hasPiece(w) && within(what, 0, TOLD_OF_PIECE - 1) ? words[w * TOLD_OF_PIECE + what] : 0;
        }

        boolean needsAny(int w) {
            return of(w, NEEDS) != NEEDS_NOTHING;
        }

        /** All PIECES, as bits. */
        int all() {
            return (1 << pieces) - 1;
        }

        int sum(int set, int what) {
            int sum = 0;
            for (int w = 0; w < pieces; w++) {
                if (bit(set, w) == 1) {
                    sum += of(w, what);
                }
            }
            return sum;
        }

        boolean hasItsNeeds(int set) {
            for (int w = 0; w < pieces; w++) {
                if (bit(set, w) == 1 && needsAny(w) && bit(set, of(w, NEEDS)) == 0) {
                    return false;
                }
            }
            return true;
        }
    }

    /** THE TEXT, and how it is read, TOKEN by TOKEN. */
    private static final class Text {
        private static final int END = 0, LETTER = 1, NUMBER = 2, STOP = 3, OTHER = 4;
        private static final int MOST_ITEMS = MOST_LINES + MOST_PIECES + 1;

        private final int[] bytes = new int[TEXT_BYTES];
        private final int[] numbers = new int[TOLD_OF_PIECE];
        private int length;
        private int items;
        private boolean leastTold;
        /** The latest TOKEN: where it begins, the place behind it, of which sort, and its letter or NUMBER. */
        private int place;
        private int behind;
        private int token;
        private int value;

        boolean add(int c) {
            if (length >= TEXT_BYTES) {
                return false;
            }
            bytes[length] = c;
            length++;
            return true;
        }

        /** The FAULT, or NO_FAULT. */
        int tellTo(Told into) {
            into.erase();
            behind = 0;
            leastTold = false;
            for (items = 0; items <= MOST_ITEMS; items++) {
                step();
                if (token == END) {
                    return NO_FAULT;
                }
                int item = value;
                if (!mayBegin(into) || !readNumbers(item, into)) {
                    return place;
                }
                step();
                if (token != STOP) {
                    return place;
                }
                tell(item, into);
            }
            return place;
        }

        private boolean mayBegin(Told into) {
            if (token != LETTER) {
                return false;
            }
            switch (value) {
                case 'l': return into.lines < MOST_LINES;
                case 'w': return into.pieces < MOST_PIECES;
                case 'z': return !leastTold;
                default: return false;
            }
        }

        private boolean readNumbers(int item, Told into) {
            int many = item == 'w' ? TOLD_OF_PIECE : 1;
            for (int i = 0; i < many; i++) {
                step();
                if (token != NUMBER || !mayBe(item, i, into)) {
                    return false;
                }
                numbers[i] = value;
            }
            return true;
        }

        private boolean mayBe(int item, int i, Told into) {
            if (item == 'l') {
                return within(value, 1, WIDEST);
            }
            if (item == 'z') {
                return within(value, 1, LARGEST_SIZE);
            }
            switch (i) {
                case LETTERS: return within(value, 1, 12);
                case WORTH: return within(value, 0, 9);
                case NEEDS: return into.hasPiece(value) || value == NEEDS_NOTHING;
                case SIGN: return within(value, 0, 12);
                default: return within(value, 0, numbers[LETTERS] - 1);
            }
        }

        private void tell(int item, Told into) {
            if (item == 'l') {
                into.addLine(numbers[0]);
            } else if (item == 'w') {
                into.addPiece(numbers);
            } else {
                into.least = numbers[0];
                leastTold = true;
            }
        }

        /** To the next TOKEN. What can stand nowhere is OTHER; the END's place is the text's length. */
        private void step() {
            while (behind < length && bytes[behind] == ' ') {
                behind++;
            }
            place = behind;
            token = OTHER;
            value = 0;
            if (place >= length) {
                token = END;
            } else if (within(bytes[place], 'a', 'z')) {
                readLetters();
            } else if (within(bytes[place], '0', '9')) {
                readDigits();
            } else if (bytes[place] == ';') {
                token = STOP;
                behind++;
            }
        }

        private void readLetters() {
            value = bytes[place];
            while (behind < length && within(bytes[behind], 'a', 'z')) {
                behind++;
            }
            token = behind - place == 1 ? LETTER : OTHER;
        }

        private void readDigits() {
            while (behind < length && within(bytes[behind], '0', '9')) {
                // Above 99 it is refused in any case; the limit keeps a long one from wrapping round.
                value = Math.min(value * 10 + bytes[behind] - '0', 100);
                behind++;
            }
            boolean zeroAhead = bytes[place] == '0' && behind - place > 1;
            token = zeroAhead || value > 99 ? OTHER : NUMBER;
        }
    }

    /** NOW: how far one came in writing, and what may be UNDONE. */
    private static final class Hand {
        private static final int KNOWN_OF_STEP = 5;

        private final Told told;
        private int next;
        private int onLine;
        private int left;
        private int size = LARGEST_SIZE;
        private int omitted;
        private final int[] past = new int[MOST_UNDONE * KNOWN_OF_STEP];
        private int known;

        Hand(Told told) {
            this.told = told;
        }

        void begin() {
            next = 0;
            onLine = 0;
            left = told.wideOf(0);
            size = LARGEST_SIZE;
            omitted = 0;
            known = 0;
        }

        void become(Hand other) {
            next = other.next;
            onLine = other.onLine;
            left = other.left;
            size = other.size;
            omitted = other.omitted;
            System.arraycopy(other.past, 0, past, 0, past.length);
            known = other.known;
        }

        boolean hasNext() {
            return told.hasPiece(next);
        }

        boolean canWrite() {
            return hasNext() && told.lines > 0;
        }

        int put(int letters) {
            int needed = (blank() + letters) * size;
            if (needed > left) {
                return STATE;
            }
            remember();
            left -= needed;
            next++;
            return left;
        }

        int putBroken(int letters, int rest) {
            int stroke = 1;
            int needed = (blank() + letters + stroke) * size;
            int wideNext = told.wideOf(onLine + 1);
            if (needed > left || rest * size > wideNext) {
                return STATE;
            }
            remember();
            onLine++;
            left = wideNext - rest * size;
            next++;
            return left;
        }

        /** All that is written takes some of its LINE: one of which all is LEFT has no PIECE yet. */
        private int blank() {
            return left == told.wideOf(onLine) ? 0 : 1;
        }

        int leaveOut() {
            remember();
            omitted |= 1 << next;
            next++;
            return Integer.bitCount(omitted);
        }

        int shrink(int lesser) {
            remember();
            int before = size;
            size = lesser;
            return before;
        }

        int turn() {
            remember();
            onLine++;
            left = told.wideOf(onLine);
            return onLine;
        }

        private void remember() {
            if (known >= MOST_UNDONE) {
                known = MOST_UNDONE - 1;
                System.arraycopy(past, KNOWN_OF_STEP, past, 0, known * KNOWN_OF_STEP);
            }
            int at = known * KNOWN_OF_STEP;
            past[at] = next;
            past[at + 1] = onLine;
            past[at + 2] = left;
            past[at + 3] = size;
            past[at + 4] = omitted;
            known++;
        }

        int takeBack() {
            if (known > 0) {
                known--;
                int at = known * KNOWN_OF_STEP;
                next = past[at];
                onLine = past[at + 1];
                left = past[at + 2];
                size = past[at + 3];
                omitted = past[at + 4];
            }
            return known;
        }
    }

    /** FILL: PIECES on the LINES from the beginning, one behind another. */
    private static final class Filling {
        private final Told told;
        private final int[] lineOf = new int[MOST_PIECES];
        private int onLine;
        private int left;
        private boolean lineIsEmpty;

        Filling(Told told) {
            this.told = told;
        }

        private void begin(int lost) {
            onLine = 0;
            left = Math.max(told.wideOf(0) - lost, 0);
            lineIsEmpty = true;
        }

        private boolean put(int letters, int size) {
            int needed = (lineIsEmpty ? letters : letters + 1) * size;
            lineIsEmpty = false;
            if (needed <= left) {
                left -= needed;
                return true;
            }
            for (int l = onLine + 1; l < told.lines; l++) {
                if (letters * size <= told.wideOf(l)) {
                    onLine = l;
                    left = told.wideOf(l) - letters * size;
                    return true;
                }
            }
            return false;
        }

        /** Whether all of the words (bits) go ON, of which some (bits) are longer than told. */
        boolean goesOn(int size, int words, int longer) {
            begin(0);
            for (int w = 0; w < told.pieces; w++) {
                if (bit(words, w) == 1) {
                    int letters = told.of(w, LETTERS) + bit(longer, w) * MORE_LETTERS;
                    if (!put(letters, size)) {
                        return false;
                    }
                    lineOf[w] = onLine;
                }
            }
            return true;
        }

        /** Behind goesOn: where it put a PIECE. */
        int lineOfPiece(int w) {
            return told.hasPiece(w) ? lineOf[w] : NONE;
        }

        /** How many PIECES from the first on go ON, if so much of LINE 0 is lost. */
        int howFar(int size, int lost) {
            begin(lost);
            for (int w = 0; w < told.pieces; w++) {
                if (!put(told.of(w, LETTERS), size)) {
                    return w;
                }
            }
            return told.pieces;
        }
    }
}
