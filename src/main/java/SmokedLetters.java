import java.util.Arrays;

/**
 * An island that holds travellers, the rows of tents and the boats, and the letters that its
 * clerks smoke. What each call answers stands in the document, as numbered promises.
 */
public final class SmokedLetters {
    public static final int BAD = -1, STATE = -2, FULL = -3, NONE = -9;
    public static final int NO = -1000000;

    private static final int MAX_TEXT = 200;
    private static final int MAX_NUMBER = 1023;
    private static final int MAX_HOLD = 40;
    private static final int MAX_ROWS = 3;
    private static final int MAX_BOATS = 9;
    private static final int MAX_TRAVELLERS = 6;
    private static final int MAX_COMES = 40;
    private static final int MAX_CHANCE = 10;
    private static final int MAX_CLERKS = 4;
    private static final int MAX_DAY = 200;
    private static final int MAX_WITHIN = 60;
    private static final int MAX_WORDS = 5;
    private static final int MAX_BROWN = 4;
    private static final int MAX_UNDONE = 10;
    private static final int IMAGES = 2;
    private static final int FIRST_FAULT = -10;
    private static final int NOT_ONE = -5;
    private static final int ALL_WORDS = 1023;

    /** A word that was burnt; as a clerk's m and n it says that he has no mercy. */
    private static final int LOST = 10;
    /** Letters are held as the document tells them: a 1, then the words, to this base. */
    private static final int BASE = 11;
    private static final int EMPTY_LETTER = 1;
    private static final int MAX_LETTER = 322101;

    private final Text text = new Text();
    private Island told = new Island();
    /** A text is read into this one, so that a fault leaves what was told as it is. */
    private Island draft = new Island();
    private final Now present = new Now();
    private final History history = new History();
    private final Now[] images = new Now[IMAGES];
    private int imagesKept = 0;
    private final Plans plans = new Plans();
    private final int[] brownLetters = new int[MAX_BROWN];
    private final int[] brownClerks = new int[MAX_BROWN];
    private int browns = 0;
    private final int[] clerkRow = new int[MAX_CLERKS];
    private final int[] sickWays = new int[MAX_TRAVELLERS + 1];
    private long traced = 0;

    public SmokedLetters() {
        for (int i = 0; i < IMAGES; i++) {
            images[i] = new Now();
        }
    }

    // ---- the island

    public int type(int letter) {
        if (letter < 0 || letter > 255) {
            return BAD;
        }
        return text.append(letter) ? text.length : FULL;
    }

    public int clear() {
        int had = text.length;
        text.length = 0;
        return had;
    }

    public int island() {
        int items = text.readInto(draft);
        if (items < 0) {
            return items;
        }
        Island before = told;
        told = draft;
        draft = before;
        text.length = 0;
        present.beginAnew();
        history.known = 0;
        imagesKept = 0;
        browns = 0;
        return items;
    }

    public int traveller(int t, int what) {
        if (!told.hasTraveller(t)) {
            return BAD;
        }
        switch (what) {
            case 0:
                return told.comes[t];
            case 1:
                return told.chances[t];
            case 2:
                return present.rowOf(t);
            case 3:
                return present.daysInRow(t);
            case 4:
                return present.isGone(t) ? 1 : 0;
            default:
                return BAD;
        }
    }

    public int clerk(int k, int what) {
        if (!told.hasClerk(k)) {
            return BAD;
        }
        switch (what) {
            case 0:
                return told.burns[k];
            case 1:
                return told.mercyFrom[k];
            case 2:
                return told.mercyTo[k];
            default:
                return BAD;
        }
    }

    public int now(int what) {
        switch (what) {
            case 0:
                return present.today;
            case 1:
                return present.vinegar;
            case 2:
                return present.mayLeave(told.hold, 0);
            case 3:
                return present.gone;
            case 4:
                return told.boatSailsOn(present.today) ? 1 : 0;
            case 5:
                return history.known;
            default:
                return BAD;
        }
    }

    // ---- days

    public int puts(int t, int row) {
        if (!told.hasTraveller(t) || !told.hasRow(row)) {
            return BAD;
        }
        if (present.today < told.comes[t] || present.rowOf(t) != NONE || present.isGone(t)) {
            return STATE;
        }
        history.remember(present);
        present.inRow[row] |= 1 << t;
        present.rowDays[row] = 0;
        return Integer.bitCount(present.inRow[row]);
    }

    public int day() {
        if (present.today >= MAX_DAY) {
            return STATE;
        }
        history.remember(present);
        present.passDay();
        return present.mayLeave(told.hold, 0);
    }

    public int sails(int t) {
        if (!told.hasTraveller(t)) {
            return BAD;
        }
        boolean may = (present.mayLeave(told.hold, 0) >> t & 1) != 0;
        if (!may || !told.boatSailsOn(present.today)) {
            return STATE;
        }
        history.remember(present);
        present.letGo(t);
        return Integer.bitCount(present.gone);
    }

    public int undo() {
        if (history.known == 0) {
            return STATE;
        }
        history.takeBack(present);
        return history.known;
    }

    // ---- plans

    public int most(int n, int t) {
        if (n < 0 || n > MAX_DAY || !isNoneOrTraveller(t)) {
            return BAD;
        }
        plans.weigh(told, n);
        int sailed = -plans.findBest(told);
        return t == NONE ? sailed : plans.bestRowOf(told, t);
    }

    public int soonest(int t) {
        if (!isNoneOrTraveller(t)) {
            return BAD;
        }
        plans.weigh(told, NONE);
        int cost = plans.findBest(told);
        return t == NONE ? cost / Plans.LAST_DAY : plans.bestRowOf(told, t);
    }

    public int plan(int rows, int t) {
        if (!isNoneOrTraveller(t) || !plans.readFigures(told, rows)) {
            return BAD;
        }
        int vinegar = 0;
        for (int row = 0; row < MAX_ROWS; row++) {
            vinegar += plans.runRow(told, plans.inRow[row]);
        }
        return t == NONE ? vinegar : plans.sailDays[t];
    }

    public int waits(int t) {
        if (!told.hasTraveller(t)) {
            return BAD;
        }
        if (present.rowOf(t) == NONE) {
            return STATE;
        }
        return Math.max(0, told.hold - present.daysInRow(t));
    }

    public int boat(int n, int what) {
        if (n < 1 || n > MAX_WITHIN || what < 0 || what > 1) {
            return BAD;
        }
        int bestDay = NONE;
        int bestTakes = 0;
        for (int later = 0; later <= n; later++) {
            int takes = Integer.bitCount(present.mayLeave(told.hold, later));
            if (takes > bestTakes && told.boatSailsOn(present.today + later)) {
                bestTakes = takes;
                bestDay = present.today + later;
            }
        }
        if (bestDay == NONE) {
            return NONE;
        }
        return what == 0 ? bestDay : bestTakes;
    }

    // ---- spots

    public long clean(int row, int what) {
        if (!told.hasRow(row) || what < 0 || what > 1) {
            return BAD;
        }
        int upper = 1;
        int lower = 1;
        for (int t = 0; t < told.travellers; t++) {
            if ((present.inRow[row] >> t & 1) != 0) {
                upper *= MAX_CHANCE - told.chances[t];
                lower *= MAX_CHANCE;
            }
        }
        return inLeastTerms(upper, lower, what);
    }

    public long well(int t, int k, int what) {
        if (!told.hasTraveller(t) || k < 0 || k > MAX_TRAVELLERS || what < 0 || what > 1) {
            return BAD;
        }
        countSickWays(t);
        int heIsWell = (MAX_CHANCE - told.chances[t]) * sickWays[k];
        int heIsSick = k == 0 ? 0 : told.chances[t] * sickWays[k - 1];
        if (heIsWell + heIsSick == 0) {
            return NONE;
        }
        return inLeastTerms(heIsWell, heIsWell + heIsSick, what);
    }

    // ---- letters

    public int writes(int word) {
        if (word < 0 || word >= LOST) {
            return BAD;
        }
        int words = lengthOf(present.letter);
        if (words >= MAX_WORDS) {
            return FULL;
        }
        history.remember(present);
        present.letter = present.letter * BASE + word;
        return words + 1;
    }

    public int tears() {
        history.remember(present);
        int had = lengthOf(present.letter);
        present.letter = EMPTY_LETTER;
        return had;
    }

    public int smokes(int k) {
        if (!told.hasClerk(k)) {
            return BAD;
        }
        history.remember(present);
        present.letter = told.smoked(present.letter, k);
        return lostIn(present.letter);
    }

    public int word(int i) {
        if (i < 0 || i >= lengthOf(present.letter)) {
            return BAD;
        }
        return wordAt(present.letter, i);
    }

    public int brown(int k) {
        if (!told.hasClerk(k)) {
            return BAD;
        }
        int words = lengthOf(present.letter);
        if (words == 0 || (browns > 0 && words != brownLength())) {
            return STATE;
        }
        if (browns >= MAX_BROWN) {
            return FULL;
        }
        brownLetters[browns] = present.letter;
        brownClerks[browns] = k;
        browns++;
        return browns;
    }

    public int burn() {
        int were = browns;
        browns = 0;
        return were;
    }

    public int stood(int i) {
        if (i < 0 || i >= brownLength()) {
            return BAD;
        }
        return mayHaveStood(i);
    }

    public int letters(int i) {
        if (i == NONE) {
            return possibleLetters();
        }
        if (i < 0 || i >= brownLength()) {
            return BAD;
        }
        if (possibleLetters() == 0) {
            return NONE;
        }
        int words = mayHaveStood(i);
        return Integer.bitCount(words) == 1 ? Integer.numberOfTrailingZeros(words) : NOT_ONE;
    }

    public int whose(int letter) {
        if (!isWholeLetter(letter)) {
            return BAD;
        }
        int clerks = 0;
        for (int k = 0; k < told.clerks; k++) {
            if (told.smoked(letter, k) == present.letter) {
                clerks |= 1 << k;
            }
        }
        return clerks;
    }

    public int chain(int letter, int i) {
        if (!isWholeLetter(letter) || i < -1) {
            return BAD;
        }
        int clerks = fewestClerks(letter);
        if (clerks == NONE || i == -1) {
            return clerks;
        }
        return i < clerks && i < MAX_CLERKS ? clerkRow[i] : NOT_ONE;
    }

    // ---- kinds, images

    public int rate(int kind, int k) {
        if (!told.hasClerk(k)) {
            return NO;
        }
        switch (kind) {
            case 0:
                return asClerk(k);
            case 1:
                return asNun(k);
            case 2:
                return asNephew(k);
            case 3:
                return asAbbess(k);
            case 4:
                return asForger(k);
            case 5:
                return asGull(k);
            default:
                return NO;
        }
    }

    public int keep(int image) {
        if (image < 0 || image >= IMAGES) {
            return BAD;
        }
        images[image].becomeAs(present);
        imagesKept |= 1 << image;
        return present.today;
    }

    public int back(int image) {
        if (image < 0 || image >= IMAGES) {
            return BAD;
        }
        if ((imagesKept >> image & 1) == 0) {
            return STATE;
        }
        present.becomeAs(images[image]);
        history.known = 0;
        return present.today;
    }

    public int count(int what) {
        switch (what) {
            case 0:
                return told.hold;
            case 1:
                return told.rows;
            case 2:
                return told.boats;
            case 3:
                return told.travellers;
            case 4:
                return told.clerks;
            case 5:
                return lengthOf(present.letter);
            case 6:
                return browns;
            case 7:
                return text.length;
            default:
                return BAD;
        }
    }

    public long trace() {
        return traced;
    }

    // ---- what the calls share

    private boolean isNoneOrTraveller(int t) {
        return t == NONE || told.hasTraveller(t);
    }

    /** The row that has a traveller, of rows told as bits; NONE: none has him. */
    private static int rowWith(int[] inRow, int t) {
        for (int row = 0; row < inRow.length; row++) {
            if ((inRow[row] >> t & 1) != 0) {
                return row;
            }
        }
        return NONE;
    }

    /** sickWays[j] becomes the weight of all ways in which just j of the others are sick. */
    private void countSickWays(int besides) {
        Arrays.fill(sickWays, 0);
        sickWays[0] = 1;
        for (int t = 0; t < told.travellers; t++) {
            if (t == besides) {
                continue;
            }
            int sick = told.chances[t];
            // Downwards, so that nobody is counted twice.
            for (int j = MAX_TRAVELLERS; j > 0; j--) {
                sickWays[j] = sickWays[j] * (MAX_CHANCE - sick) + sickWays[j - 1] * sick;
            }
            sickWays[0] *= MAX_CHANCE - sick;
        }
    }

    private static int inLeastTerms(int upper, int lower, int what) {
        int divisor = lower;
        int rest = upper;
        for (int i = 0; i < 64 && rest != 0; i++) {
            int next = divisor % rest;
            divisor = rest;
            rest = next;
        }
        if (divisor == 0) {
            return BAD;
        }
        return (what == 0 ? upper : lower) / divisor;
    }

    private int brownLength() {
        return browns == 0 ? 0 : lengthOf(brownLetters[0]);
    }

    private int mayHaveStood(int i) {
        int words = ALL_WORDS;
        for (int b = 0; b < browns; b++) {
            words &= told.copiedFrom(wordAt(brownLetters[b], i), brownClerks[b]);
        }
        return words;
    }

    private int possibleLetters() {
        int ways = browns == 0 ? 0 : 1;
        for (int i = 0; i < brownLength(); i++) {
            ways *= Integer.bitCount(mayHaveStood(i));
        }
        return ways;
    }

    /** How many clerks the shortest row has; clerkRow has them then. */
    private int fewestClerks(int letter) {
        for (int clerks = 0; clerks <= told.clerks; clerks++) {
            if (canMake(told, clerkRow, letter, present.letter, 0, clerks)) {
                return clerks;
            }
        }
        return NONE;
    }

    /** Tries clerks by their numbers, so that the first row found is the first of its length. */
    private static boolean canMake(Island told, int[] row, int letter, int wanted, int depth, int clerks) {
        if (depth >= clerks || depth >= row.length) {
            return letter == wanted;
        }
        for (int k = 0; k < told.clerks; k++) {
            if (standsAhead(row, depth, k)) {
                continue;
            }
            row[depth] = k;
            if (canMake(told, row, told.smoked(letter, k), wanted, depth + 1, clerks)) {
                return true;
            }
        }
        return false;
    }

    private static boolean standsAhead(int[] row, int depth, int k) {
        for (int i = 0; i < depth && i < row.length; i++) {
            if (row[i] == k) {
                return true;
            }
        }
        return false;
    }

    private int asClerk(int k) {
        traced += 1;
        return Integer.bitCount(told.burns[k]);
    }

    private int asNun(int k) {
        traced += 10;
        return asClerk(k) + told.mercyFrom[k];
    }

    private int asNephew(int k) {
        traced += 100;
        return asClerk(k) - told.mercyTo[k];
    }

    private int asAbbess(int k) {
        traced += 1000;
        return 2 * asNun(k);
    }

    private int asForger(int k) {
        traced += 10000;
        return asNephew(k) + k;
    }

    private int asGull(int k) {
        traced += 100000;
        return asClerk(k) + Integer.bitCount(present.gone);
    }

    private static int lengthOf(int letter) {
        int words = 0;
        for (int rest = letter; rest >= BASE && words < MAX_WORDS; rest /= BASE) {
            words++;
        }
        return words;
    }

    private static int wordAt(int letter, int i) {
        int rest = letter;
        for (int behind = lengthOf(letter) - 1; behind > i; behind--) {
            rest /= BASE;
        }
        return rest % BASE;
    }

    private static int lostIn(int letter) {
        int lost = 0;
        for (int rest = letter; rest >= BASE; rest /= BASE) {
            if (rest % BASE == LOST) {
                lost++;
            }
        }
        return lost;
    }

    private static boolean isWholeLetter(int letter) {
        if (letter < BASE || letter > MAX_LETTER || lostIn(letter) != 0) {
            return false;
        }
        int first = letter;
        for (int i = 0; i < MAX_WORDS && first >= BASE; i++) {
            first /= BASE;
        }
        return first == 1;
    }

    /** What the text tells; nothing but a text changes it. */
    private static final class Island {
        int hold;
        int rows;
        int boats;
        int travellers;
        int clerks;
        final int[] comes = new int[MAX_TRAVELLERS];
        final int[] chances = new int[MAX_TRAVELLERS];
        /** Travellers by the day they come, and by numbers on one day. */
        final int[] order = new int[MAX_TRAVELLERS];
        final int[] burns = new int[MAX_CLERKS];
        final int[] mercyFrom = new int[MAX_CLERKS];
        final int[] mercyTo = new int[MAX_CLERKS];

        Island() {
            forget();
        }

        void forget() {
            hold = 10;
            rows = 2;
            boats = 1;
            travellers = 0;
            clerks = 0;
        }

        void addTraveller(int comesOn, int chance) {
            if (travellers >= MAX_TRAVELLERS) {
                return;
            }
            comes[travellers] = comesOn;
            chances[travellers] = chance;
            int place = travellers;
            while (place > 0 && comes[order[place - 1]] > comesOn) {
                order[place] = order[place - 1];
                place--;
            }
            order[place] = travellers;
            travellers++;
        }

        void addClerk(int words, int from, int to) {
            if (clerks >= MAX_CLERKS) {
                return;
            }
            burns[clerks] = words;
            mercyFrom[clerks] = from;
            mercyTo[clerks] = to;
            clerks++;
        }

        boolean hasTraveller(int t) {
            return t >= 0 && t < travellers;
        }

        boolean hasClerk(int k) {
            return k >= 0 && k < clerks;
        }

        boolean hasRow(int row) {
            return row >= 0 && row < rows;
        }

        boolean boatSailsOn(int date) {
            return boats > 0 && date % boats == 0;
        }

        /** The first day from this one on that has a boat. */
        int boatFrom(int date) {
            return boats > 0 ? (date + boats - 1) / boats * boats : date;
        }

        /** A clerk burns ahead of his mercy, and what he writes out of mercy he doesn't burn. */
        int copied(int word, int k) {
            if (word >= LOST || (burns[k] >> word & 1) != 0) {
                return LOST;
            }
            return word == mercyFrom[k] ? mercyTo[k] : word;
        }

        /** The words (bits) of which a clerk's copy is this word. */
        int copiedFrom(int copy, int k) {
            int words = 0;
            for (int word = 0; word < LOST; word++) {
                if (copied(word, k) == copy) {
                    words |= 1 << word;
                }
            }
            return words;
        }

        int smoked(int letter, int k) {
            int made = 0;
            int weight = 1;
            for (int rest = letter; rest >= BASE; rest /= BASE) {
                made += weight * copied(rest % BASE, k);
                weight *= BASE;
            }
            return made + weight;
        }
    }

    /** The text, and how it is read. */
    private static final class Text {
        private static final int ENDED = 0;
        private static final int NUMBER = 1;
        private static final int WRONG = 2;

        int length = 0;
        private final int[] letters = new int[MAX_TEXT];
        /** The token that is looked at: what it is (a letter stands for itself), and where. */
        private int token = ENDED;
        private int place = 0;
        private int behind = 0;
        private int value = 0;
        private final int[] numbers = new int[3];
        private boolean holdTold = false;
        private boolean rowsTold = false;
        private boolean boatsTold = false;

        boolean append(int letter) {
            if (length >= MAX_TEXT) {
                return false;
            }
            letters[length] = letter;
            length++;
            return true;
        }

        /** How many items there are; -10 less the fault. */
        int readInto(Island draft) {
            draft.forget();
            behind = 0;
            holdTold = false;
            rowsTold = false;
            boatsTold = false;
            for (int items = 0; items <= MAX_TEXT; items++) {
                nextToken();
                if (token == ENDED) {
                    return items;
                }
                if (!readItem(draft)) {
                    break;
                }
            }
            return FIRST_FAULT - place;
        }

        private boolean readItem(Island draft) {
            int item = token;
            if (!mayBegin(item, draft)) {
                return false;
            }
            int wanted = item == 'k' ? 3 : item == 't' ? 2 : 1;
            for (int i = 0; i < wanted; i++) {
                nextToken();
                if (token != NUMBER || !fits(item, i)) {
                    return false;
                }
                numbers[i] = value;
            }
            nextToken();
            if (token != ';') {
                return false;
            }
            tell(item, draft);
            return true;
        }

        private boolean mayBegin(int item, Island draft) {
            switch (item) {
                case 'q':
                    return !holdTold;
                case 'r':
                    return !rowsTold;
                case 'b':
                    return !boatsTold;
                case 't':
                    return draft.travellers < MAX_TRAVELLERS;
                case 'k':
                    return draft.clerks < MAX_CLERKS;
                default:
                    return false;
            }
        }

        private boolean fits(int item, int i) {
            switch (item) {
                case 'q':
                    return value >= 1 && value <= MAX_HOLD;
                case 'r':
                    return value >= 1 && value <= MAX_ROWS;
                case 'b':
                    return value >= 1 && value <= MAX_BOATS;
                case 't':
                    return value <= (i == 0 ? MAX_COMES : MAX_CHANCE);
                default:
                    return i == 0 ? value <= ALL_WORDS : i == 1 ? value <= LOST : goesWithM();
            }
        }

        private boolean goesWithM() {
            int m = numbers[1];
            return m == LOST ? value == LOST : value < LOST && value != m;
        }

        private void tell(int item, Island draft) {
            switch (item) {
                case 'q':
                    draft.hold = numbers[0];
                    holdTold = true;
                    break;
                case 'r':
                    draft.rows = numbers[0];
                    rowsTold = true;
                    break;
                case 'b':
                    draft.boats = numbers[0];
                    boatsTold = true;
                    break;
                case 't':
                    draft.addTraveller(numbers[0], numbers[1]);
                    break;
                default:
                    draft.addClerk(numbers[0], numbers[1], numbers[2]);
                    break;
            }
        }

        private void nextToken() {
            place = behind;
            while (place < length && letters[place] == ' ') {
                place++;
            }
            if (place >= length) {
                token = ENDED;
                behind = place;
            } else if (isFigure(letters[place])) {
                readNumber();
            } else {
                token = isTokenLetter(letters[place]) ? letters[place] : WRONG;
                behind = place + 1;
            }
        }

        private void readNumber() {
            value = 0;
            behind = place;
            while (behind < length && isFigure(letters[behind])) {
                // Beyond the greatest number it stays so, however many figures follow.
                value = Math.min(value * 10 + letters[behind] - '0', MAX_NUMBER + 1);
                behind++;
            }
            boolean zeroAhead = letters[place] == '0' && behind - place > 1;
            token = zeroAhead || value > MAX_NUMBER ? WRONG : NUMBER;
        }

        private static boolean isFigure(int letter) {
            return letter >= '0' && letter <= '9';
        }

        private static boolean isTokenLetter(int letter) {
            return letter == 'q' || letter == 'r' || letter == 'b' || letter == 't'
                    || letter == 'k' || letter == ';';
        }
    }

    /** All that days and letters change: what an image keeps, and what is taken back. */
    private static final class Now {
        int today;
        int vinegar;
        int gone;
        int letter;
        final int[] inRow = new int[MAX_ROWS];
        /** One number a row is enough: a newcomer makes all in his row begin anew. */
        final int[] rowDays = new int[MAX_ROWS];

        Now() {
            beginAnew();
        }

        void beginAnew() {
            today = 0;
            vinegar = 0;
            gone = 0;
            letter = EMPTY_LETTER;
            Arrays.fill(inRow, 0);
            Arrays.fill(rowDays, 0);
        }

        void becomeAs(Now other) {
            today = other.today;
            vinegar = other.vinegar;
            gone = other.gone;
            letter = other.letter;
            for (int row = 0; row < MAX_ROWS; row++) {
                inRow[row] = other.inRow[row];
                rowDays[row] = other.rowDays[row];
            }
        }

        int rowOf(int t) {
            return rowWith(inRow, t);
        }

        int daysInRow(int t) {
            int row = rowOf(t);
            return row >= 0 && row < MAX_ROWS ? rowDays[row] : 0;
        }

        boolean isGone(int t) {
            return (gone >> t & 1) != 0;
        }

        /** Who may leave (bits) so many days later, if nothing else is done. */
        int mayLeave(int hold, int later) {
            int who = 0;
            for (int row = 0; row < MAX_ROWS; row++) {
                if (rowDays[row] + later >= hold) {
                    who |= inRow[row];
                }
            }
            return who;
        }

        void passDay() {
            today++;
            for (int row = 0; row < MAX_ROWS; row++) {
                vinegar += vinegarFor(inRow[row]);
                rowDays[row]++;
            }
        }

        void letGo(int t) {
            gone |= 1 << t;
            for (int row = 0; row < MAX_ROWS; row++) {
                inRow[row] &= ~(1 << t);
            }
        }

        /** What a row with these in it takes for a day. */
        static int vinegarFor(int who) {
            return who == 0 ? 0 : 1 + Integer.bitCount(who) / 2;
        }
    }

    /** What was ahead of the latest calls, as a ring: a new one takes the oldest one's place. */
    private static final class History {
        int known = 0;
        private int next = 0;
        private final Now[] past = new Now[MAX_UNDONE];

        History() {
            for (int i = 0; i < MAX_UNDONE; i++) {
                past[i] = new Now();
            }
        }

        void remember(Now present) {
            past[next].becomeAs(present);
            next = next == MAX_UNDONE - 1 ? 0 : next + 1;
            known = Math.min(known + 1, MAX_UNDONE);
        }

        void takeBack(Now present) {
            next = next == 0 ? MAX_UNDONE - 1 : next - 1;
            present.becomeAs(past[next]);
            known--;
        }
    }

    /**
     * Plans. Rows don't touch one another, so what each set of travellers in one row comes to is
     * found once, and a plan is put together from its rows.
     */
    private static final class Plans {
        /** Above all days on which they sail together, so that one number orders plans. */
        static final int LAST_DAY = 1000;
        private static final int SETS = 64;
        private static final int WORST = 1000000;

        final int[] sailDays = new int[MAX_TRAVELLERS];
        final int[] inRow = new int[MAX_ROWS];
        /** For each set of travellers in one row: of these the greatest counts .. */
        private final int[] lastOf = new int[SETS];
        /** .. and of these the sum. */
        private final int[] sumOf = new int[SETS];
        private int best = 0;

        /** Lets these alone live in one row: their sailDays; answers the vinegar. */
        int runRow(Island told, int who) {
            int waiting = 0;
            int since = 0;
            int vinegar = 0;
            for (int i = 0; i < told.travellers; i++) {
                int t = told.order[i];
                if ((who >> t & 1) == 0) {
                    continue;
                }
                int sailing = told.boatFrom(since + told.hold);
                int comes = told.comes[t];
                vinegar += (Math.min(sailing, comes) - since) * Now.vinegarFor(waiting);
                if (sailing <= comes) {
                    letSail(waiting, sailing);
                    waiting = 0;
                }
                waiting |= 1 << t;
                since = comes;
            }
            int sailing = told.boatFrom(since + told.hold);
            letSail(waiting, sailing);
            return vinegar + (sailing - since) * Now.vinegarFor(waiting);
        }

        private void letSail(int who, int date) {
            for (int t = 0; t < MAX_TRAVELLERS; t++) {
                if ((who >> t & 1) != 0) {
                    sailDays[t] = date;
                }
            }
        }

        /** For most by a day n, or (NONE) for all soonest. */
        void weigh(Island told, int n) {
            for (int who = 0; who < 1 << told.travellers && who < SETS; who++) {
                runRow(told, who);
                lastOf[who] = 0;
                sumOf[who] = 0;
                for (int t = 0; t < told.travellers; t++) {
                    if ((who >> t & 1) == 0) {
                        continue;
                    }
                    if (n == NONE) {
                        lastOf[who] = Math.max(lastOf[who], sailDays[t]);
                        sumOf[who] += sailDays[t];
                    } else if (sailDays[t] <= n) {
                        sumOf[who]--;
                    }
                }
            }
        }

        /** Finds the first of the cheapest plans, and answers what it costs. */
        int findBest(Island told) {
            int all = 1;
            for (int t = 0; t < told.travellers; t++) {
                all *= told.rows;
            }
            int least = WORST;
            for (int number = 0; number < all; number++) {
                spread(told, number);
                int cost = costOfRows();
                if (cost < least) {
                    least = cost;
                    best = number;
                }
            }
            return least;
        }

        int bestRowOf(Island told, int t) {
            spread(told, best);
            return rowWith(inRow, t);
        }

        /** Plans by numbers: traveller 0's row is the highest figure, so they come in order. */
        private void spread(Island told, int number) {
            Arrays.fill(inRow, 0);
            int rest = number;
            for (int t = told.travellers - 1; t >= 0 && told.rows > 0; t--) {
                inRow[rest % told.rows] |= 1 << t;
                rest /= told.rows;
            }
        }

        private int costOfRows() {
            int last = 0;
            int sum = 0;
            for (int row = 0; row < MAX_ROWS; row++) {
                last = Math.max(last, lastOf[inRow[row]]);
                sum += sumOf[inRow[row]];
            }
            return last * LAST_DAY + sum;
        }

        /** A plan told as figures, traveller 0's the lowest; false: it is no plan. */
        boolean readFigures(Island told, int figures) {
            if (figures < 0) {
                return false;
            }
            Arrays.fill(inRow, 0);
            int rest = figures;
            for (int t = 0; t < told.travellers; t++) {
                int row = rest % 10;
                if (!told.hasRow(row)) {
                    return false;
                }
                inRow[row] |= 1 << t;
                rest /= 10;
            }
            return rest == 0;
        }
    }
}
