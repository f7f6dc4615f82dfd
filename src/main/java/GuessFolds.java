/** A strip that is folded in an odd number of parts, from a guess on; README.md says how to use it. */
public final class GuessFolds {
    public static final int BAD = -1, STATE = -2, FULL = -3, NONE = -9;
    public static final int NO = -1000000;

    private static final int LEAST_PARTS = 3, MOST_PARTS = 63, PARTS_AT_FIRST = 5, PART_AT_FIRST = 1;
    private static final int MOST_OFF = 99, MOST_HAIR = 9;
    private static final int MOST_BYTES = 200, MOST_FOLDS = 20, MOST_LETTERS = 12, MOST_SEEN = 8;
    private static final int LEFT_END = 0, RIGHT_END = 1, GUESS = 2, CREASES_AT_FIRST = 3;
    private static final int LEFT = 0, RIGHT = 1;
    private static final int MOST_NEAR = 99999, MOST_FOLDS_NEAR = 40;
    private static final int FAULT_BASE = -10;

    // Each fold halves once at most, so 20 folds leave only whole numbers of this unit's share.
    private static final long ONE = 1L << MOST_FOLDS;

    private final Text text = new Text();
    private final Now now = new Now();
    private final Now firstImage = new Now();
    private final Now secondImage = new Now();
    private int parts = PARTS_AT_FIRST;
    private int part = PART_AT_FIRST;
    private int off = 0;
    private int hair = 0;
    private long traced = 0;

    public GuessFolds() {
        now.begin(PARTS_AT_FIRST, PART_AT_FIRST);
    }

    // ---- the strip

    public int type(long v, int n) {
        if (n < 1 || n > 8) {
            return BAD;
        }
        if (!text.bytes.hasRoom(n)) {
            return FULL;
        }
        for (int behind = n - 1; behind >= 0; behind--) {
            text.bytes.add((v >> (8 * behind)) & 255);
        }
        return text.bytes.size();
    }

    public int clear() {
        return text.bytes.empty();
    }

    public int strip() {
        int fault = text.read();
        if (fault >= 0) {
            return FAULT_BASE - fault;
        }
        parts = text.parts;
        part = text.part;
        off = text.off;
        hair = text.hair;
        now.begin(parts, part);
        for (int i = 0; i < text.firsts.size(); i++) {
            now.bring((int) text.firsts.at(i), (int) text.seconds.at(i));
        }
        firstImage.empty();
        secondImage.empty();
        text.bytes.empty();
        return text.items;
    }

    public long crease(int k, int what) {
        if (!isCrease(k) || what < 0 || what > 6) {
            return BAD;
        }
        switch (what) {
            case 0: return leastUpper(now.where.at(k), parts * ONE);
            case 1: return leastLower(now.where.at(k), parts * ONE);
            case 2: return leastUpper(now.offness.at(k), ONE);
            case 3: return leastLower(now.offness.at(k), ONE);
            case 4: return leastUpper(now.hairs.at(k), ONE);
            case 5: return leastLower(now.hairs.at(k), ONE);
            default: return partOf(k);
        }
    }

    public int told(int what) {
        switch (what) {
            case 0: return parts;
            case 1: return part;
            case 2: return off;
            case 3: return hair;
            default: return BAD;
        }
    }

    // ---- folds

    public int fold(int i, int j) {
        if (!isCrease(i) || !isCrease(j) || i == j) {
            return BAD;
        }
        if (isFolded()) {
            return FULL;
        }
        now.bring(i, j);
        return latest();
    }

    public int rule() {
        int latest = latest();
        int at = partOf(latest);
        if (!isInner(at)) {
            return STATE;
        }
        if (isFolded()) {
            return FULL;
        }
        int side = sideAt(at);
        now.bring(side == LEFT ? LEFT_END : RIGHT_END, latest);
        return side;
    }

    public int undo() {
        if (now.creases() <= CREASES_AT_FIRST) {
            return STATE;
        }
        now.unfold();
        return now.creases();
    }

    public int says(int j) {
        return isInner(j) ? sideAt(j) : BAD;
    }

    public int round(int j) {
        return isInner(j) ? foldsAround(j) : BAD;
    }

    public int near(int t) {
        if (t < 0 || t > MOST_NEAR) {
            return BAD;
        }
        // t is doubled, not OFF halved, so that nothing is cut.
        for (int folds = 0; folds <= MOST_FOLDS_NEAR; folds++) {
            if (off * 1000L <= (long) t << folds) {
                return folds;
            }
        }
        return NONE;
    }

    public int wasted(int what) {
        switch (what) {
            case 0: return creasesAtNoPart();
            case 1: return partsWithoutCrease();
            default: return BAD;
        }
    }

    // ---- what can be had

    public int fewest(int j) {
        if (!isInner(j)) {
            return BAD;
        }
        int at = part;
        for (int folds = 0; folds < MOST_PARTS; folds++) {
            if (at == j) {
                return folds;
            }
            at = ruled(parts, at);
        }
        return NONE;
    }

    public int comes(int what) {
        switch (what) {
            case 0: return foldsAround(part);
            case 1: return starts();
            default: return BAD;
        }
    }

    public int letter(int its) {
        if (its != LEFT && its != RIGHT) {
            return BAD;
        }
        if (!now.letters.hasRoom(1)) {
            return FULL;
        }
        now.letters.add(its);
        return now.letters.size();
    }

    public int hush() {
        return now.letters.empty();
    }

    public int meant(int what) {
        if (what < 0 || what > 2) {
            return BAD;
        }
        int pairs = 0;
        int firstParts = NONE;
        int firstPart = NONE;
        for (int some = LEAST_PARTS; some <= MOST_PARTS; some += 2) {
            for (int from = 1; from < some; from++) {
                if (wrongLetter(some, from) == NONE) {
                    firstParts = pairs == 0 ? some : firstParts;
                    firstPart = pairs == 0 ? from : firstPart;
                    pairs++;
                }
            }
        }
        if (what == 0) {
            return pairs;
        }
        return what == 1 ? firstParts : firstPart;
    }

    public int wrong() {
        return wrongLetter(parts, part);
    }

    public long got(int what) {
        if (what != 0 && what != 1) {
            return BAD;
        }
        // Twelve letters at most halve twelve times, which this unit bears without a rest.
        long whole = parts * ONE;
        long at = part * ONE;
        for (int i = 0; i < now.letters.size(); i++) {
            at = (now.letters.at(i) == LEFT ? at : at + whole) / 2;
        }
        return what == 0 ? leastUpper(at, whole) : leastLower(at, whole);
    }

    // ---- what was seen

    public int saw(int j) {
        if (!isInner(j)) {
            return BAD;
        }
        if (!now.seen.hasRoom(1)) {
            return FULL;
        }
        now.seen.add(j);
        return now.seen.size();
    }

    public int forget() {
        return now.seen.empty();
    }

    public int from(int what) {
        if (what != 0 && what != 1) {
            return BAD;
        }
        long seen = seenSet();
        int ways = 0;
        int least = NONE;
        for (int guess = 1; guess < parts; guess++) {
            int more = waysFrom(guess, seen);
            if (more > 0 && least == NONE) {
                least = guess;
            }
            ways += more;
        }
        return what == 0 ? ways : least;
    }

    // ---- kinds, images

    public int mark(int kind, int k) {
        if (!isCrease(k)) {
            return NO;
        }
        switch (kind) {
            case 0: return asCrease(k);
            case 1: return asPinch(k);
            case 2: return asEnd(k);
            case 3: return asThumb(k);
            case 4: return asCorner(k);
            case 5: return asSeam(k);
            default: return NO;
        }
    }

    public int keep(int image) {
        Now its = imageOf(image);
        if (its == null) {
            return BAD;
        }
        its.copy(now);
        return now.creases();
    }

    public int back(int image) {
        Now its = imageOf(image);
        if (its == null) {
            return BAD;
        }
        if (its.creases() == 0) {
            return STATE;
        }
        now.copy(its);
        return now.creases();
    }

    public int count(int what) {
        switch (what) {
            case 0: return now.creases();
            case 1: return now.letters.size();
            case 2: return now.seen.size();
            case 3: return text.bytes.size();
            default: return BAD;
        }
    }

    public long trace() {
        return traced;
    }

    // ---- creases

    private boolean isCrease(int k) {
        return k >= 0 && k < now.creases();
    }

    private boolean isFolded() {
        return now.creases() >= CREASES_AT_FIRST + MOST_FOLDS;
    }

    private int latest() {
        return now.creases() - 1;
    }

    /** 0 to PARTS, or NONE. */
    private int partOf(int k) {
        long where = now.where.at(k);
        return where % ONE == 0 ? (int) (where / ONE) : NONE;
    }

    private int creasesAtNoPart() {
        int wasted = 0;
        for (int k = GUESS; k < now.creases(); k++) {
            if (partOf(k) == NONE) {
                wasted++;
            }
        }
        return wasted;
    }

    private int partsWithoutCrease() {
        long met = 0;
        for (int k = GUESS; k < now.creases(); k++) {
            int at = partOf(k);
            if (isInner(at)) {
                met |= bit(at);
            }
        }
        return parts - 1 - Long.bitCount(met);
    }

    // ---- the rule

    /** The ends are parts too, but the rule speaks of those between them alone. */
    private boolean isInner(int j) {
        return j >= 1 && j < parts;
    }

    private static int sideAt(int j) {
        return j % 2 == 0 ? LEFT : RIGHT;
    }

    private static int ruled(int parts, int j) {
        return (sideAt(j) == LEFT ? j : j + parts) / 2;
    }

    /** The rule only changes the order of the parts, so it comes round to each within PARTS. */
    private int foldsAround(int j) {
        int at = ruled(parts, j);
        int folds = 1;
        while (at != j && folds < MOST_PARTS) {
            at = ruled(parts, at);
            folds++;
        }
        return folds;
    }

    /** Parts that come from one another make a ring, and each ring wants one guess. */
    private int starts() {
        long come = 0;
        int starts = 0;
        for (int j = 1; j < parts; j++) {
            if ((come & bit(j)) == 0) {
                starts++;
                come |= ringOf(j);
            }
        }
        return starts;
    }

    private long ringOf(int j) {
        long ring = 0;
        int at = j;
        for (int folds = 0; folds < MOST_PARTS; folds++) {
            ring |= bit(at);
            at = ruled(parts, at);
        }
        return ring;
    }

    private int wrongLetter(int itsParts, int from) {
        int at = from;
        for (int i = 0; i < now.letters.size(); i++) {
            if (now.letters.at(i) != sideAt(at)) {
                return i;
            }
            at = ruled(itsParts, at);
        }
        return NONE;
    }

    // ---- sets of parts

    /** Parts are 62 at most, so a set of them is the bits of one number. */
    private static long bit(int j) {
        return 1L << j;
    }

    private long seenSet() {
        long set = 0;
        for (int i = 0; i < now.seen.size(); i++) {
            set |= bit((int) now.seen.at(i));
        }
        return set;
    }

    private int waysFrom(int guess, long seen) {
        long come = 0;
        int ways = 0;
        int at = guess;
        for (int folds = 0; folds <= MOST_FOLDS; folds++) {
            come |= bit(at);
            if (come == seen) {
                ways++;
            }
            at = ruled(parts, at);
        }
        return ways;
    }

    // ---- kinds

    private int asCrease(int k) {
        traced += 1;
        return k;
    }

    private int asPinch(int k) {
        traced += 10;
        int at = partOf(k);
        return asCrease(k) + (at == NONE ? 0 : at);
    }

    private int asEnd(int k) {
        traced += 100;
        return asCrease(k) - now.creases();
    }

    private int asThumb(int k) {
        traced += 1000;
        return asPinch(k) * 2;
    }

    private int asCorner(int k) {
        traced += 10000;
        return asEnd(k) + now.letters.size();
    }

    private int asSeam(int k) {
        traced += 100000;
        return asCrease(k) + parts;
    }

    // ---- images

    private Now imageOf(int image) {
        switch (image) {
            case 0: return firstImage;
            case 1: return secondImage;
            default: return null;
        }
    }

    // ---- fractions

    private static long leastUpper(long upper, long lower) {
        long shared = shared(upper, lower);
        return shared == 0 ? 0 : upper / shared;
    }

    private static long leastLower(long upper, long lower) {
        long shared = shared(upper, lower);
        return shared == 0 ? 1 : lower / shared;
    }

    /** The greatest number that both are multiples of. */
    private static long shared(long upper, long lower) {
        long one = upper;
        long other = lower;
        // Euclid's steps for two longs stay under a hundred.
        for (int steps = 0; steps < 100 && other != 0; steps++) {
            long rest = one % other;
            one = other;
            other = rest;
        }
        return one;
    }

    /** Numbers in a row of fixed room, made once: no call makes a new one. */
    private static final class Row {
        private final long[] cells;
        private int size = 0;

        Row(int room) {
            cells = new long[Math.max(room, 0)];
        }

        int size() {
            return size;
        }

        boolean hasRoom(int more) {
            return size + more <= cells.length;
        }

        long at(int place) {
            return place >= 0 && place < cells.length ? cells[place] : 0;
        }

        void add(long number) {
            if (size >= 0 && size < cells.length) {
                cells[size] = number;
                size++;
            }
        }

        void dropLast() {
            size = Math.max(size - 1, 0);
        }

        /** How many there were. */
        int empty() {
            int were = size;
            size = 0;
            return were;
        }

        void copy(Row other) {
            if (other == null || other == this) {
                return;
            }
            empty();
            for (int i = 0; i < other.size; i++) {
                add(other.at(i));
            }
        }
    }

    /** What an image keeps; one without creases was never kept. */
    private static final class Now {
        // The first in shares of ONE of a part, the others in shares of ONE.
        private final Row where = new Row(CREASES_AT_FIRST + MOST_FOLDS);
        private final Row offness = new Row(CREASES_AT_FIRST + MOST_FOLDS);
        private final Row hairs = new Row(CREASES_AT_FIRST + MOST_FOLDS);
        private final Row letters = new Row(MOST_LETTERS);
        private final Row seen = new Row(MOST_SEEN);

        int creases() {
            return where.size();
        }

        void begin(int parts, int part) {
            empty();
            addCrease(0, 0, 0);
            addCrease(parts * ONE, 0, 0);
            addCrease(part * ONE, ONE, 0);
        }

        void bring(int i, int j) {
            addCrease(middle(where, i, j), middle(offness, i, j), middle(hairs, i, j) + ONE);
        }

        void unfold() {
            where.dropLast();
            offness.dropLast();
            hairs.dropLast();
        }

        void empty() {
            where.empty();
            offness.empty();
            hairs.empty();
            letters.empty();
            seen.empty();
        }

        void copy(Now other) {
            if (other == null) {
                return;
            }
            where.copy(other.where);
            offness.copy(other.offness);
            hairs.copy(other.hairs);
            letters.copy(other.letters);
            seen.copy(other.seen);
        }

        private void addCrease(long itsWhere, long itsOffness, long itsHairs) {
            where.add(itsWhere);
            offness.add(itsOffness);
            hairs.add(itsHairs);
        }

        private static long middle(Row row, int i, int j) {
            return row == null ? 0 : (row.at(i) + row.at(j)) / 2;
        }
    }

    /** The text, and what its last reading told; nothing else changes before all of it is read. */
    private static final class Text {
        private static final int STRIP = 0, PART = 1, OFF = 2, HAIR = 3, FOLD = 4;
        private static final int NUMBER = 5, SEMICOLON = 6, END = 7, NOTHING = 8;
        private static final int AWAITS_WORD = 0, AWAITS_NUMBER = 1, AWAITS_SECOND = 2, AWAITS_SEMICOLON = 3;
        private static final int MOST_NUMBER = 99;

        private final Row bytes = new Row(MOST_BYTES);

        private int parts;
        private int part;
        private int off;
        private int hair;
        private final Row firsts = new Row(MOST_FOLDS);
        private final Row seconds = new Row(MOST_FOLDS);
        private int items;

        private int place;
        private int behind;
        private int token;
        private int number;

        private int awaited;
        private int word;
        private int toldWords;

        /** The place of the fault, or NONE. */
        int read() {
            begin();
            for (int tokens = 0; tokens <= MOST_BYTES; tokens++) {
                step();
                if (token == END && awaited == AWAITS_WORD) {
                    return NONE;
                }
                if (!takesToken()) {
                    return place;
                }
            }
            return place;
        }

        private void begin() {
            parts = PARTS_AT_FIRST;
            part = PART_AT_FIRST;
            off = 0;
            hair = 0;
            firsts.empty();
            seconds.empty();
            items = 0;
            behind = 0;
            awaited = AWAITS_WORD;
            toldWords = 0;
        }

        // ---- tokens

        private void step() {
            place = behind;
            while (place < bytes.size() && bytes.at(place) == ' ') {
                place++;
            }
            behind = place + 1;
            if (place >= bytes.size()) {
                token = END;
            } else if (bytes.at(place) == ';') {
                token = SEMICOLON;
            } else if (isLetter(place)) {
                token = wordHere();
            } else if (isDigit(place)) {
                token = numberHere();
            } else {
                token = NOTHING;
            }
        }

        private int wordHere() {
            while (behind < bytes.size() && isLetter(behind)) {
                behind++;
            }
            if (isHere("strip")) {
                return STRIP;
            }
            if (isHere("part")) {
                return PART;
            }
            if (isHere("off")) {
                return OFF;
            }
            if (isHere("hair")) {
                return HAIR;
            }
            return isHere("fold") ? FOLD : NOTHING;
        }

        private boolean isHere(String letters) {
            if (letters == null || letters.length() != behind - place) {
                return false;
            }
            for (int i = 0; i < letters.length(); i++) {
                if (letters.charAt(i) != bytes.at(place + i)) {
                    return false;
                }
            }
            return true;
        }

        private int numberHere() {
            number = (int) bytes.at(place) - '0';
            while (behind < bytes.size() && isDigit(behind)) {
                // A long row of digits must not wrap around to a small number.
                number = Math.min(number * 10 + (int) bytes.at(behind) - '0', MOST_NUMBER + 1);
                behind++;
            }
            boolean hasNeedlessZero = bytes.at(place) == '0' && behind - place > 1;
            return number > MOST_NUMBER || hasNeedlessZero ? NOTHING : NUMBER;
        }

        private boolean isLetter(int at) {
            return at < bytes.size() && bytes.at(at) >= 'a' && bytes.at(at) <= 'z';
        }

        private boolean isDigit(int at) {
            return at < bytes.size() && bytes.at(at) >= '0' && bytes.at(at) <= '9';
        }

        // ---- items

        private boolean takesToken() {
            switch (awaited) {
                case AWAITS_WORD: return takesWord();
                case AWAITS_NUMBER: return token == NUMBER && takesNumber();
                case AWAITS_SECOND: return token == NUMBER && takesSecond();
                default: return takesSemicolon();
            }
        }

        private boolean takesWord() {
            if (!mayStand(token)) {
                return false;
            }
            word = token;
            toldWords |= 1 << word;
            awaited = AWAITS_NUMBER;
            return true;
        }

        private boolean mayStand(int its) {
            switch (its) {
                case FOLD: return firsts.hasRoom(1);
                // What a part may be hangs on the strip, so the strip can't come behind it.
                case STRIP: return !isTold(STRIP) && !isTold(PART) && !isTold(FOLD);
                case PART:
                case OFF:
                case HAIR: return !isTold(its) && !isTold(FOLD);
                default: return false;
            }
        }

        private boolean isTold(int its) {
            return (toldWords & (1 << its)) != 0;
        }

        private boolean takesNumber() {
            if (!mayBe(number)) {
                return false;
            }
            switch (word) {
                case STRIP: parts = number; break;
                case PART: part = number; break;
                case OFF: off = number; break;
                case HAIR: hair = number; break;
                default: firsts.add(number); break;
            }
            awaited = word == FOLD ? AWAITS_SECOND : AWAITS_SEMICOLON;
            return true;
        }

        private boolean mayBe(int its) {
            switch (word) {
                case STRIP: return its >= LEAST_PARTS && its <= MOST_PARTS && its % 2 == 1;
                case PART: return its >= 1 && its < parts;
                case OFF: return its >= 0 && its <= MOST_OFF;
                case HAIR: return its >= 0 && its <= MOST_HAIR;
                default: return isToldCrease(its);
            }
        }

        private boolean takesSecond() {
            if (!isToldCrease(number) || number == firsts.at(seconds.size())) {
                return false;
            }
            seconds.add(number);
            awaited = AWAITS_SEMICOLON;
            return true;
        }

        /** A fold counts from its second number on: it can't be of itself. */
        private boolean isToldCrease(int k) {
            return k >= 0 && k < CREASES_AT_FIRST + seconds.size();
        }

        private boolean takesSemicolon() {
            if (token != SEMICOLON) {
                return false;
            }
            items++;
            awaited = AWAITS_WORD;
            return true;
        }
    }
}
