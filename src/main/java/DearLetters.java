import java.util.Arrays;

/** Letters to Father Christmas: who answers them, on which sheets, with which gifts. */
public final class DearLetters {
    public static final int NONE = -1;
    public static final long NOTHING = -1000000000000000L;

    private static final int TEXT_MOST = 1600;
    private static final int FEED_BYTES = 20;
    private static final int STATEMENTS_MOST = 80;
    private static final int NAME_MOST = 6;
    private static final int DIGITS_MOST = 4;
    private static final int NUMBER_MOST = 9999;
    private static final int LETTERS_MOST = 8;
    private static final int GIFTS_MOST = 4;
    private static final int HELPERS_MOST = 3;
    private static final int SHEETS_MOST = 4;
    private static final int ROWS_MOST = 16;
    private static final int UNDO_MOST = 20;
    private static final int DAY_MOST = 999;
    private static final int EVENINGS_MOST = 50;
    private static final int AHEAD_MOST = 30;
    private static final int OPEN_MOST = 6;
    private static final int VALUE_MOST = 1000000;
    private static final int TIME_MOST = 999;
    private static final int GRAVE_MOST = 10;
    private static final int ODDS_MOST = 10;
    private static final int IMAGE_MOST = 3 + HELPERS_MOST + GIFTS_MOST + 3 * LETTERS_MOST;

    // What the statements of a heap tell; the first three have names, the first five are as in has().
    private static final int LETTERS = 0;
    private static final int GIFTS = 1;
    private static final int HELPERS = 2;
    private static final int NEARS = 3;
    private static final int LIKES = 4;
    private static final int TAKES = 5;
    private static final int WARMS = 6;
    private static final int WISHES = 7;
    private static final int MISSES = 8;
    private static final int COLDS = 9;
    private static final int NAMED_KINDS = 3;
    private static final int[] KIND_MOST = {
        LETTERS_MOST, GIFTS_MOST, HELPERS_MOST, 20, 10, 1, 1, STATEMENTS_MOST, STATEMENTS_MOST, STATEMENTS_MOST
    };

    private static final int FAULT_TEXT = 1;
    private static final int FAULT_NUMBER = 2;
    private static final int FAULT_NAME = 3;
    private static final int FAULT_OPEN = 4;
    private static final int FAULT_MANY = 5;

    // The own words as the document lists them, then those that begin a question, which names may be.
    private static final String WORDS = "letter age need grave gift stock wish near like helper time hand bears takes warm missed cold wishes day number sheet done or and not all min max first last often total most least";
    private static final int WORD_COUNT = 34;
    private static final int LETTER_WORD = 0;
    private static final int AGE_WORD = 1;
    private static final int NEED_WORD = 2;
    private static final int GRAVE_WORD = 3;
    private static final int GIFT_WORD = 4;
    private static final int STOCK_WORD = 5;
    private static final int WISH_WORD = 6;
    private static final int NEAR_WORD = 7;
    private static final int LIKE_WORD = 8;
    private static final int HELPER_WORD = 9;
    private static final int TIME_WORD = 10;
    private static final int HAND_WORD = 11;
    private static final int BEARS_WORD = 12;
    private static final int TAKES_WORD = 13;
    private static final int WARM_WORD = 14;
    private static final int MISSED_WORD = 15;
    private static final int COLD_WORD = 16;
    private static final int WISHES_WORD = 17;
    private static final int DAY_WORD = 18;
    private static final int NUMBER_WORD = 19;
    private static final int SHEET_WORD = 20;
    private static final int DONE_WORD = 21;
    private static final int OR_WORD = 22;
    private static final int AND_WORD = 23;
    private static final int NOT_WORD = 24;
    private static final int ALL_WORD = 25;
    private static final int MIN_WORD = 26;
    private static final int MAX_WORD = 27;
    private static final int FIRST_WORD = 28;
    private static final int LAST_WORD = 29;
    private static final int OFTEN_WORD = 30;
    private static final int TOTAL_WORD = 31;
    private static final int MOST_WORD = 32;
    private static final int LEAST_WORD = 33;

    // Code: a number from 0 on stands for itself, -1 - v for the value v, the rest are operations.
    private static final int AGE_VALUE = 0;
    private static final int NEED_VALUE = 1;
    private static final int GRAVE_VALUE = 2;
    private static final int HAND_VALUE = 3;
    private static final int WISHES_VALUE = 4;
    private static final int DAY_VALUE = 5;
    private static final int NUMBER_VALUE = 6;
    private static final int SHEET_VALUE = 7;
    private static final int DONE_VALUE = 8;
    private static final int GIFT_VALUE = 9;
    private static final int VALUE_COUNT = 10;
    private static final int ADD = -11;
    private static final int SUBTRACT = -12;
    private static final int MULTIPLY = -13;
    private static final int DIVIDE = -14;
    private static final int LESSER = -15;
    private static final int GREATER = -16;
    private static final int BELOW = -17;
    private static final int ABOVE = -18;
    private static final int EQUAL = -19;
    private static final int AND = -20;
    private static final int OR = -21;
    private static final int NOT = -22;
    private static final int WISH_OF = -23;

    private final Text text = new Text();
    private final HeapReader reader;
    private final Question question;
    private final Machine machine = new Machine();
    private final Evening evening = new Evening(machine);
    private final Sharing sharing = new Sharing();
    private final Sorting sorting = new Sorting();
    private final State now = new State();
    private final State scratch = new State();
    private final State[] past = new State[UNDO_MOST];
    private final int[] seenLetter = new int[ROWS_MOST];
    private final int[] seenMinutes = new int[ROWS_MOST];
    private final int[] written = new int[IMAGE_MOST];
    private final int[] refused = new int[6];
    private Heap current = new Heap();
    private int seenRows;
    private int writtenBytes;
    private int acts;
    private int oldestAct;
    private int draw = 1;

    public DearLetters() {
        Sums sums = new Sums(text);
        reader = new HeapReader(text, sums);
        question = new Question(text, sums);
        for (int k = 0; k < past.length; k++) {
            past[k] = new State();
        }
    }

    public int feed(int a, int b, int c, int d, int e) {
        if (text.size + FEED_BYTES > TEXT_MOST) {
            return refuseNumber(0);
        }
        text.append(a);
        text.append(b);
        text.append(c);
        text.append(d);
        text.append(e);
        return text.size;
    }

    public boolean end(int n) {
        if (n < 0 || n > text.size) {
            return refuse(0);
        }
        text.size = n;
        return true;
    }

    public int heap() {
        boolean good = reader.read();
        text.size = 0;
        if (!good) {
            return refuseNumber(1);
        }
        Heap old = current;
        current = reader.heap;
        reader.heap = old;
        now.begin(current);
        acts = 0;
        seenRows = 0;
        return reader.statements;
    }

    public int fault(int what) {
        if (what == 0) {
            return text.fault;
        }
        return what == 1 ? text.place : NONE;
    }

    public int has(int what) {
        switch (what) {
            case LETTERS:
            case GIFTS:
            case HELPERS:
            case NEARS:
            case LIKES:
                return current.count[what];
            case 5:
                return now.day;
            case 6:
                return now.countDone();
            case 7:
                return now.countSheets();
            case 8:
                return now.countGiven();
            case 9:
                return now.countLeft();
            case 10:
                return seenRows;
            case 11:
                return acts;
            default:
                return NONE;
        }
    }

    public int letter(int kind, int which, int k) {
        if (kind < 0 || kind >= NAMED_KINDS || which < 0 || which >= current.count[kind]) {
            return NONE;
        }
        if (k < 0 || k >= NAME_MOST) {
            return NONE;
        }
        return (current.names[kind][which] >> 5 * (NAME_MOST - 1 - k)) & 31;
    }

    public int mail(int letter, int what) {
        if (!isLetter(letter)) {
            return NONE;
        }
        switch (what) {
            case 0:
                return current.age[letter];
            case 1:
                return current.need[letter];
            case 2:
                return current.grave[letter];
            case 3:
                return now.doneBy[letter];
            case 4:
                return now.sheetOf[letter];
            case 5:
                return now.giftOf[letter];
            case 6:
                return current.allWishes(letter);
            case 7:
                return current.near[letter];
            default:
                return NONE;
        }
    }

    public int gift(int gift, int what) {
        if (!isGift(gift)) {
            return NONE;
        }
        if (what == 0) {
            return now.stock[gift];
        }
        if (what < 10 || !isLetter(what - 10)) {
            return NONE;
        }
        return current.wish[what - 10][gift];
    }

    public int helper(int helper, int what) {
        if (!isHelper(helper)) {
            return NONE;
        }
        switch (what) {
            case 0:
                return current.minutes[helper];
            case 1:
                return current.hand[helper];
            case 2:
                return current.bears[helper];
            case 3:
                return now.left[helper];
            case 4:
                return now.doneByHelper(helper);
            default:
                return NONE;
        }
    }

    public int takes(int letter, int helper) {
        if (!isLetter(letter) || !isHelper(helper)) {
            return NONE;
        }
        return machine.timeOf(current, now, letter, helper);
    }

    public long warmth(int letter, int helper) {
        if (!isLetter(letter) || !isHelper(helper)) {
            return NOTHING;
        }
        return machine.warmthOf(current, now, letter, helper);
    }

    public int can(int letter, int helper) {
        if (!isLetter(letter) || !isHelper(helper)) {
            return NONE;
        }
        return machine.timeIfAble(current, now, letter, helper) == NONE ? 0 : 1;
    }

    public int warmest(int letter) {
        if (letter != NONE && !isLetter(letter)) {
            return NONE;
        }
        evening.plan(current, now);
        return letter == NONE ? evening.answers : evening.helperFor[letter];
    }

    public long warms() {
        evening.plan(current, now);
        return evening.together;
    }

    public int later(int n) {
        if (n < 0 || n > AHEAD_MOST || now.day + n > DAY_MOST) {
            return NONE;
        }
        scratch.copyFrom(now);
        for (int k = 0; k < n; k++) {
            evening.plan(current, scratch);
            evening.close(current, scratch);
        }
        return scratch.countDone();
    }

    public int finished() {
        scratch.copyFrom(now);
        int most = Math.min(AHEAD_MOST, DAY_MOST - now.day);
        for (int k = 0; k <= most; k++) {
            if (scratch.countDone() == current.count[LETTERS]) {
                return k;
            }
            if (k < most) {
                evening.plan(current, scratch);
                evening.close(current, scratch);
            }
        }
        return NONE;
    }

    public int sheets(int letter) {
        if (letter != NONE && !isLetter(letter)) {
            return NONE;
        }
        sorting.chooseSheets(current);
        return letter == NONE ? sorting.kinds : sorting.kindFor[letter];
    }

    public int shared(int letter) {
        if (letter != NONE && !isLetter(letter)) {
            return NONE;
        }
        sharing.plan(current, now);
        return letter == NONE ? sharing.together : sharing.giftFor[letter];
    }

    public int tell(int what) {
        if (what < 0 || what > 1) {
            return NONE;
        }
        int best = 0;
        for (int from = 1; from <= GRAVE_MOST + 1; from++) {
            if (current.lossFrom(from) < current.lossFrom(best)) {
                best = from;
            }
        }
        return what == 0 ? best : current.lossFrom(best);
    }

    public int children(int letter) {
        if (letter != NONE && !isLetter(letter)) {
            return NONE;
        }
        sorting.chooseGroups(current);
        return letter == NONE ? sorting.groups : sorting.groupFor[letter];
    }

    public int see() {
        int rows = text.size / 3;
        boolean good = text.size % 3 == 0 && rows >= 1 && rows <= ROWS_MOST && tellsLetters(rows);
        text.size = 0;
        if (!good) {
            return refuseNumber(1);
        }
        for (int k = 0; k < rows; k++) {
            seenLetter[k] = text.bytes[3 * k];
            seenMinutes[k] = text.pairAt(3 * k + 1);
        }
        seenRows = rows;
        return rows;
    }

    public int whose() {
        int bits = 0;
        for (int helper = 0; helper < current.count[HELPERS]; helper++) {
            if (fitsSeen(helper)) {
                bits |= 1 << helper;
            }
        }
        return bits;
    }

    public int watched(int what) {
        int helpers = whose();
        int letters = current.count[LETTERS];
        if (what < 0 || what > 1 || helpers == 0 || letters == 0) {
            return NONE;
        }
        int watch = 0;
        int fewest = mostAlike(0, helpers);
        for (int letter = 1; letter < letters; letter++) {
            int alike = mostAlike(letter, helpers);
            if (alike < fewest) {
                fewest = alike;
                watch = letter;
            }
        }
        return what == 0 ? watch : fewest;
    }

    public int answer(int letter, int helper) {
        if (!isLetter(letter) || !isHelper(helper)) {
            return refuseNumber(2);
        }
        int time = machine.timeIfAble(current, now, letter, helper);
        if (time == NONE) {
            return refuseNumber(2);
        }
        remember();
        now.doneBy[letter] = helper;
        now.left[helper] -= time;
        return time;
    }

    public boolean sheet(int letter, int kind) {
        if (!isLetter(letter) || kind < 1 || kind > SHEETS_MOST) {
            return refuse(2);
        }
        if (now.sheetOf[letter] == kind || now.hasSheetNear(current, letter, kind)) {
            return refuse(2);
        }
        remember();
        now.sheetOf[letter] = kind;
        return true;
    }

    public int give(int letter, int gift) {
        if (!isLetter(letter) || !isGift(gift)) {
            return refuseNumber(2);
        }
        if (now.giftOf[letter] != NONE || now.stock[gift] <= 0) {
            return refuseNumber(2);
        }
        remember();
        now.giftOf[letter] = gift;
        now.stock[gift]--;
        return now.stock[gift];
    }

    public int evenings(int n) {
        if (!canGoBy(n)) {
            return refuseNumber(3);
        }
        remember();
        int answers = 0;
        for (int k = 0; k < n; k++) {
            evening.plan(current, now);
            evening.close(current, now);
            answers += evening.answers;
        }
        return answers;
    }

    public int chance(int n) {
        if (!canGoBy(n)) {
            return refuseNumber(3);
        }
        remember();
        int colds = 0;
        for (int k = 0; k < n; k++) {
            colds += catchColds();
            evening.plan(current, now);
            evening.close(current, now);
        }
        return colds;
    }

    public boolean undo() {
        if (acts == 0) {
            return refuse(4);
        }
        acts--;
        now.copyFrom(past[(oldestAct + acts) % UNDO_MOST]);
        return true;
    }

    public boolean seed(int seed) {
        if (seed < 0) {
            return refuse(5);
        }
        draw = seed;
        return true;
    }

    public long ask() {
        boolean good = question.read();
        text.size = 0;
        return good ? question.over(current, now, machine) : NOTHING;
    }

    public int image() {
        int size = 0;
        written[size++] = now.day >> 8;
        written[size++] = now.day & 255;
        for (int helper = 0; helper < current.count[HELPERS]; helper++) {
            written[size++] = now.left[helper];
        }
        for (int gift = 0; gift < current.count[GIFTS]; gift++) {
            written[size++] = now.stock[gift];
        }
        for (int letter = 0; letter < current.count[LETTERS]; letter++) {
            written[size++] = now.doneBy[letter] + 1;
            written[size++] = now.sheetOf[letter];
            written[size++] = now.giftOf[letter] + 1;
        }
        written[size] = checkByte(written, size);
        writtenBytes = size + 1;
        return writtenBytes;
    }

    public int octet(int k) {
        return k < 0 || k >= writtenBytes ? NONE : written[k];
    }

    public boolean on() {
        int size = 3 + current.count[HELPERS] + current.count[GIFTS] + 3 * current.count[LETTERS];
        boolean good = text.size == size && checkByte(text.bytes, size - 1) == text.bytes[size - 1];
        text.size = 0;
        if (!good) {
            return refuse(5);
        }
        loadScratch();
        if (!scratch.canBe(current)) {
            return refuse(5);
        }
        now.copyFrom(scratch);
        acts = 0;
        return true;
    }

    public int status(int what) {
        return what < 0 || what >= refused.length ? NONE : refused[what];
    }

    private boolean refuse(int what) {
        refused[what]++;
        return false;
    }

    private int refuseNumber(int what) {
        refused[what]++;
        return NONE;
    }

    private boolean isLetter(int letter) {
        return letter >= 0 && letter < current.count[LETTERS];
    }

    private boolean isGift(int gift) {
        return gift >= 0 && gift < current.count[GIFTS];
    }

    private boolean isHelper(int helper) {
        return helper >= 0 && helper < current.count[HELPERS];
    }

    private boolean tellsLetters(int rows) {
        for (int k = 0; k < rows; k++) {
            if (!isLetter(text.bytes[3 * k])) {
                return false;
            }
        }
        return true;
    }

    private boolean fitsSeen(int helper) {
        for (int k = 0; k < seenRows; k++) {
            if (machine.timeOf(current, now, seenLetter[k], helper) != seenMinutes[k]) {
                return false;
            }
        }
        return true;
    }

    /** How many of these helpers at the most are left behind one time of this letter. */
    private int mostAlike(int letter, int helpers) {
        int most = 0;
        for (int helper = 0; helper < current.count[HELPERS]; helper++) {
            if (((helpers >> helper) & 1) == 1) {
                most = Math.max(most, alike(letter, helper, helpers));
            }
        }
        return most;
    }

    private int alike(int letter, int helper, int helpers) {
        int time = machine.timeOf(current, now, letter, helper);
        int count = 0;
        for (int other = 0; other < current.count[HELPERS]; other++) {
            if (((helpers >> other) & 1) == 1 && machine.timeOf(current, now, letter, other) == time) {
                count++;
            }
        }
        return count;
    }

    private void remember() {
        if (acts == UNDO_MOST) {
            oldestAct = (oldestAct + 1) % UNDO_MOST;
            acts--;
        }
        past[(oldestAct + acts) % UNDO_MOST].copyFrom(now);
        acts++;
    }

    private boolean canGoBy(int n) {
        return n >= 1 && n <= EVENINGS_MOST && now.day + n <= DAY_MOST;
    }

    private int catchColds() {
        int colds = 0;
        for (int helper = 0; helper < current.count[HELPERS]; helper++) {
            if (drawOfHundred() < current.cold) {
                now.left[helper] = 0;
                colds++;
            }
        }
        return colds;
    }

    private int drawOfHundred() {
        draw = (int) ((1103515245L * draw + 12345L) & 0x7fffffffL);
        return draw / 64 % 100;
    }

    private static int checkByte(int[] bytes, int size) {
        int check = 89;
        for (int k = 0; k < size; k++) {
            check = (3 * check + bytes[k]) % 251;
        }
        return check;
    }

    private void loadScratch() {
        scratch.begin(current);
        scratch.day = text.pairAt(0);
        int at = 2;
        for (int helper = 0; helper < current.count[HELPERS]; helper++) {
            scratch.left[helper] = text.bytes[at++];
        }
        for (int gift = 0; gift < current.count[GIFTS]; gift++) {
            scratch.stock[gift] = text.bytes[at++];
        }
        for (int letter = 0; letter < current.count[LETTERS]; letter++) {
            scratch.doneBy[letter] = text.bytes[at++] - 1;
            scratch.sheetOf[letter] = text.bytes[at++];
            scratch.giftOf[letter] = text.bytes[at++] - 1;
        }
    }

    /** The tape, read word by word: the token that is next, and the latest fault. */
    private static final class Text {
        static final int END = 0;
        static final int WORD = 1;
        static final int NUMBER = 2;
        static final int SIGN = 3;
        static final int GLUED = 4;

        final int[] bytes = new int[TEXT_MOST];
        int size;
        int fault;
        int place = NONE;
        int kind;
        int tokenAt;
        int sign;
        int word;
        private int value;
        private int tokenEnd;
        private final int[] words = new int[WORD_COUNT];

        Text() {
            int count = 0;
            int from = 0;
            for (int k = 0; k <= WORDS.length() && count < words.length; k++) {
                if (k == WORDS.length() || WORDS.charAt(k) == ' ') {
                    words[count] = packedConstant(from, k);
                    count++;
                    from = k + 1;
                }
            }
        }

        /** Five bits a letter, the first letter highest, as names are held. */
        private static int packedConstant(int from, int to) {
            int packed = 0;
            for (int k = from; k < from + NAME_MOST; k++) {
                packed = 32 * packed + (k < to ? WORDS.charAt(k) - 'a' + 1 : 0);
            }
            return packed;
        }

        void append(int number) {
            for (int shift = 24; shift >= 0 && size < bytes.length; shift -= 8) {
                bytes[size++] = (number >> shift) & 255;
            }
        }

        int pairAt(int k) {
            return 256 * bytes[k] + bytes[k + 1];
        }

        void open() {
            fault = 0;
            place = NONE;
            kind = END;
            tokenEnd = 0;
            next();
        }

        void next() {
            boolean behindWord = kind == WORD || kind == NUMBER;
            tokenAt = tokenEnd;
            while (tokenAt < size && (bytes[tokenAt] == 32 || bytes[tokenAt] == 10)) {
                tokenAt++;
            }
            // Words and numbers side by side need a blank: without one nothing can go on here.
            boolean glued = behindWord && tokenAt == tokenEnd;
            int first = tokenAt < size ? bytes[tokenAt] : NONE;
            sign = NONE;
            word = NONE;
            tokenEnd = tokenAt;
            if (first == NONE) {
                kind = END;
            } else if (first >= 'a' && first <= 'z') {
                readWord();
                kind = glued ? GLUED : WORD;
                word = glued ? NONE : word;
            } else if (first >= '0' && first <= '9') {
                readDigits();
                kind = glued ? GLUED : NUMBER;
            } else {
                kind = SIGN;
                sign = first;
                tokenEnd++;
            }
        }

        private void readWord() {
            int packed = 0;
            while (tokenEnd < size && bytes[tokenEnd] >= 'a' && bytes[tokenEnd] <= 'z') {
                packed = tokenEnd < tokenAt + NAME_MOST ? 32 * packed + bytes[tokenEnd] - 'a' + 1 : NONE;
                tokenEnd++;
            }
            if (packed == NONE) {
                return;
            }
            value = packed << 5 * (NAME_MOST - (tokenEnd - tokenAt));
            for (int k = 0; k < words.length && word == NONE; k++) {
                word = words[k] == value ? k : NONE;
            }
        }

        private void readDigits() {
            value = 0;
            while (tokenEnd < size && bytes[tokenEnd] >= '0' && bytes[tokenEnd] <= '9') {
                value = tokenEnd < tokenAt + DIGITS_MOST ? 10 * value + bytes[tokenEnd] - '0' : 0;
                tokenEnd++;
            }
        }

        boolean fail(int what) {
            return failAt(what, tokenAt);
        }

        private boolean failAt(int what, int where) {
            if (fault == 0) {
                fault = what;
                place = where;
            }
            return false;
        }

        boolean takeSign(int asked) {
            if (sign != asked) {
                return fail(FAULT_TEXT);
            }
            next();
            return true;
        }

        /** The name here, packed, which stays the next token; NONE with a fault. */
        int nameHere() {
            boolean own = word != NONE && word < FIRST_WORD;
            if (kind != WORD || own) {
                failAt(FAULT_TEXT, tokenAt);
                return NONE;
            }
            if (tokenEnd > tokenAt + NAME_MOST) {
                failAt(FAULT_TEXT, tokenAt + NAME_MOST);
                return NONE;
            }
            return value;
        }

        /** The number here; NONE with a fault. */
        int takeNumber(int least, int most) {
            if (kind != NUMBER) {
                fail(FAULT_TEXT);
                return NONE;
            }
            if (tokenEnd > tokenAt + DIGITS_MOST) {
                failAt(FAULT_TEXT, tokenAt + DIGITS_MOST);
                return NONE;
            }
            int number = value;
            if (number < least || number > most) {
                fail(FAULT_NUMBER);
                return NONE;
            }
            next();
            return number;
        }
    }

    /** Operations in the order in which they are done on a stack. */
    private static final class Code {
        final int[] steps = new int[TEXT_MOST];
        int size;

        void add(int step) {
            if (size < steps.length) {
                steps[size++] = step;
            }
        }

        void addAll(Code other) {
            for (int k = 0; k < other.size; k++) {
                add(other.steps[k]);
            }
        }
    }

    /** Reads sums and tests into code; each method's number says how many brackets and their like are open. */
    private static final class Sums {
        final Code code = new Code();
        private final Text text;
        private boolean asking;

        Sums(Text text) {
            this.text = text;
        }

        boolean readHeapSum(Heap heap, int formula) {
            code.size = 0;
            asking = false;
            boolean good = sum(0);
            heap.keep(formula, code);
            return good;
        }

        boolean readQuestionSum() {
            code.size = 0;
            asking = true;
            return sum(0);
        }

        boolean readTest() {
            code.size = 0;
            asking = true;
            return test(0);
        }

        private boolean test(int open) {
            boolean good = both(open);
            for (int k = 0; k < TEXT_MOST && good && text.word == OR_WORD; k++) {
                text.next();
                good = both(open);
                code.add(OR);
            }
            return good;
        }

        private boolean both(int open) {
            boolean good = fact(open);
            for (int k = 0; k < TEXT_MOST && good && text.word == AND_WORD; k++) {
                text.next();
                good = fact(open);
                code.add(AND);
            }
            return good;
        }

        private boolean fact(int open) {
            if (text.sign == '[') {
                return opens(open) && test(open + 1) && text.takeSign(']');
            }
            if (text.word == NOT_WORD) {
                boolean good = opens(open) && fact(open + 1);
                code.add(NOT);
                return good;
            }
            if (text.word == ALL_WORD) {
                text.next();
                code.add(1);
                return true;
            }
            if (!sum(open)) {
                return false;
            }
            int sign = text.sign;
            if (sign != '<' && sign != '>' && sign != '=') {
                return text.fail(FAULT_TEXT);
            }
            text.next();
            boolean good = sum(open);
            code.add(sign == '<' ? BELOW : sign == '>' ? ABOVE : EQUAL);
            return good;
        }

        private boolean sum(int open) {
            boolean good = product(open);
            for (int k = 0; k < TEXT_MOST && good && (text.sign == '+' || text.sign == '-'); k++) {
                int step = text.sign == '+' ? ADD : SUBTRACT;
                text.next();
                good = product(open);
                code.add(step);
            }
            return good;
        }

        private boolean product(int open) {
            boolean good = part(open);
            for (int k = 0; k < TEXT_MOST && good && (text.sign == '*' || text.sign == '/'); k++) {
                int step = text.sign == '*' ? MULTIPLY : DIVIDE;
                text.next();
                good = part(open);
                code.add(step);
            }
            return good;
        }

        private boolean part(int open) {
            if (text.kind == Text.NUMBER) {
                code.add(text.takeNumber(0, NUMBER_MOST));
                return text.fault == 0;
            }
            if (text.sign == '(') {
                return opens(open) && sum(open + 1) && text.takeSign(')');
            }
            if (text.word == MIN_WORD || text.word == MAX_WORD) {
                return choice(open);
            }
            if (asking && text.word == WISH_WORD) {
                boolean good = opens(open) && part(open + 1);
                code.add(WISH_OF);
                return good;
            }
            int value = asking ? questionValue(text.word) : heapValue(text.word);
            if (value == NONE) {
                return text.fail(FAULT_TEXT);
            }
            text.next();
            code.add(-1 - value);
            return true;
        }

        private boolean choice(int open) {
            int step = text.word == MIN_WORD ? LESSER : GREATER;
            text.next();
            if (text.sign != '(') {
                return text.fail(FAULT_TEXT);
            }
            boolean good = opens(open) && sum(open + 1) && text.takeSign(',') && sum(open + 1) && text.takeSign(')');
            code.add(step);
            return good;
        }

        /** Takes what opens here, if no more than the most are open then. */
        private boolean opens(int open) {
            if (open >= OPEN_MOST) {
                return text.fail(FAULT_OPEN);
            }
            text.next();
            return true;
        }

        private static int heapValue(int word) {
            return word == HAND_WORD ? HAND_VALUE : commonValue(word);
        }

        private static int questionValue(int word) {
            switch (word) {
                case NUMBER_WORD:
                    return NUMBER_VALUE;
                case SHEET_WORD:
                    return SHEET_VALUE;
                case DONE_WORD:
                    return DONE_VALUE;
                case GIFT_WORD:
                    return GIFT_VALUE;
                default:
                    return commonValue(word);
            }
        }

        private static int commonValue(int word) {
            switch (word) {
                case AGE_WORD:
                    return AGE_VALUE;
                case NEED_WORD:
                    return NEED_VALUE;
                case GRAVE_WORD:
                    return GRAVE_VALUE;
                case WISHES_WORD:
                    return WISHES_VALUE;
                case DAY_WORD:
                    return DAY_VALUE;
                default:
                    return NONE;
            }
        }
    }

    /** What a heap's text tells; nothing in it changes by acts. */
    private static final class Heap {
        static final int TAKES_FORMULA = 0;
        static final int WARM_FORMULA = 1;
        private static final int FORMULAS = 2;
        private static final int TIME_WITHOUT = 20;
        private static final int MISSED_WITHOUT = 3;

        final int[] count = new int[KIND_MOST.length];
        final int[][] names = new int[NAMED_KINDS][LETTERS_MOST];
        final int[] age = new int[LETTERS_MOST];
        final int[] need = new int[LETTERS_MOST];
        final int[] grave = new int[LETTERS_MOST];
        final int[] near = new int[LETTERS_MOST];
        final int[][] wish = new int[LETTERS_MOST][GIFTS_MOST];
        final int[][] odds = new int[LETTERS_MOST][LETTERS_MOST];
        final int[] stock = new int[GIFTS_MOST];
        final int[] minutes = new int[HELPERS_MOST];
        final int[] hand = new int[HELPERS_MOST];
        final int[] bears = new int[HELPERS_MOST];
        final Code code = new Code();
        final int[] from = new int[FORMULAS];
        final int[] to = new int[FORMULAS];
        int missed;
        int cold;

        Heap() {
            clear();
        }

        void clear() {
            Arrays.fill(count, 0);
            Arrays.fill(near, 0);
            for (int letter = 0; letter < LETTERS_MOST; letter++) {
                Arrays.fill(wish[letter], 0);
                Arrays.fill(odds[letter], NONE);
            }
            missed = MISSED_WITHOUT;
            cold = 0;
            code.size = 0;
            code.add(TIME_WITHOUT);
            code.add(-1 - HAND_VALUE);
            from[TAKES_FORMULA] = 0;
            to[TAKES_FORMULA] = 1;
            from[WARM_FORMULA] = 1;
            to[WARM_FORMULA] = 2;
        }

        void keep(int formula, Code sum) {
            from[formula] = code.size;
            code.addAll(sum);
            to[formula] = code.size;
        }

        int find(int kind, int name) {
            for (int k = 0; k < count[kind]; k++) {
                if (names[kind][k] == name) {
                    return k;
                }
            }
            return NONE;
        }

        boolean isNear(int one, int other) {
            return ((near[one] >> other) & 1) == 1;
        }

        int allWishes(int letter) {
            int all = 0;
            for (int gift = 0; gift < count[GIFTS]; gift++) {
                all += wish[letter][gift];
            }
            return all;
        }

        /** What is lost by telling on each letter that is as grave as this, or more. */
        int lossFrom(int from) {
            int loss = 0;
            for (int letter = 0; letter < count[LETTERS]; letter++) {
                loss += grave[letter] >= from ? GRAVE_MOST - grave[letter] : missed * grave[letter];
            }
            return loss;
        }
    }

    /** Reads the text of a heap. */
    private static final class HeapReader {
        private final Text text;
        private final Sums sums;
        Heap heap = new Heap();
        int statements;

        HeapReader(Text text, Sums sums) {
            this.text = text;
            this.sums = sums;
        }

        boolean read() {
            heap.clear();
            text.open();
            for (statements = 0; statements < STATEMENTS_MOST && text.kind != Text.END; statements++) {
                if (!statement() || !text.takeSign(';')) {
                    return false;
                }
            }
            return text.kind == Text.END || text.fail(FAULT_MANY);
        }

        private boolean statement() {
            int kind = kindOf(text.word);
            if (kind == NONE) {
                return text.fail(FAULT_TEXT);
            }
            if (heap.count[kind] >= KIND_MOST[kind]) {
                return text.fail(FAULT_MANY);
            }
            text.next();
            boolean good;
            switch (kind) {
                case LETTERS:
                    good = letterContent();
                    break;
                case GIFTS:
                    good = giftContent();
                    break;
                case HELPERS:
                    good = helperContent();
                    break;
                case NEARS:
                    good = nearContent();
                    break;
                case LIKES:
                    good = likeContent();
                    break;
                case TAKES:
                    good = sums.readHeapSum(heap, Heap.TAKES_FORMULA);
                    break;
                case WARMS:
                    good = sums.readHeapSum(heap, Heap.WARM_FORMULA);
                    break;
                case WISHES:
                    good = wishContent();
                    break;
                case MISSES:
                    heap.missed = text.takeNumber(0, 99);
                    good = heap.missed != NONE;
                    break;
                default:
                    heap.cold = text.takeNumber(0, 100);
                    good = heap.cold != NONE;
            }
            heap.count[kind]++;
            return good;
        }

        private static int kindOf(int word) {
            switch (word) {
                case LETTER_WORD:
                    return LETTERS;
                case GIFT_WORD:
                    return GIFTS;
                case HELPER_WORD:
                    return HELPERS;
                case NEAR_WORD:
                    return NEARS;
                case LIKE_WORD:
                    return LIKES;
                case TAKES_WORD:
                    return TAKES;
                case WARM_WORD:
                    return WARMS;
                case WISH_WORD:
                    return WISHES;
                case MISSED_WORD:
                    return MISSES;
                case COLD_WORD:
                    return COLDS;
                default:
                    return NONE;
            }
        }

        private boolean letterContent() {
            int k = heap.count[LETTERS];
            return newName(LETTERS)
                    && measure(AGE_WORD, 0, 20, heap.age, k)
                    && measure(NEED_WORD, 0, 9, heap.need, k)
                    && measure(GRAVE_WORD, 0, GRAVE_MOST, heap.grave, k);
        }

        private boolean giftContent() {
            return newName(GIFTS) && measure(STOCK_WORD, 0, 3, heap.stock, heap.count[GIFTS]);
        }

        private boolean helperContent() {
            int k = heap.count[HELPERS];
            return newName(HELPERS)
                    && measure(TIME_WORD, 1, 240, heap.minutes, k)
                    && measure(HAND_WORD, 0, 9, heap.hand, k)
                    && measure(BEARS_WORD, 0, GRAVE_MOST, heap.bears, k);
        }

        private boolean nearContent() {
            int one = takeName(LETTERS);
            int other = one == NONE ? NONE : knownHere(LETTERS);
            if (other == NONE) {
                return false;
            }
            if (one == other || heap.isNear(one, other)) {
                return text.fail(FAULT_NAME);
            }
            text.next();
            heap.near[one] |= 1 << other;
            heap.near[other] |= 1 << one;
            return true;
        }

        private boolean likeContent() {
            int one = takeName(LETTERS);
            int other = one == NONE ? NONE : knownHere(LETTERS);
            if (other == NONE) {
                return false;
            }
            if (one == other || heap.odds[one][other] != NONE) {
                return text.fail(FAULT_NAME);
            }
            text.next();
            int odds = text.takeNumber(0, ODDS_MOST);
            heap.odds[one][other] = odds;
            heap.odds[other][one] = odds;
            return odds != NONE;
        }

        private boolean wishContent() {
            int letter = takeName(LETTERS);
            int gift = letter == NONE ? NONE : takeName(GIFTS);
            int wish = gift == NONE ? NONE : text.takeNumber(1, 9);
            if (wish == NONE) {
                return false;
            }
            heap.wish[letter][gift] = wish;
            return true;
        }

        private boolean newName(int kind) {
            int name = text.nameHere();
            if (name == NONE) {
                return false;
            }
            for (int k = 0; k < NAMED_KINDS; k++) {
                if (heap.find(k, name) != NONE) {
                    return text.fail(FAULT_NAME);
                }
            }
            heap.names[kind][heap.count[kind]] = name;
            text.next();
            return true;
        }

        /** Which one of this kind is named here, its name staying the next token; NONE with a fault. */
        private int knownHere(int kind) {
            int name = text.nameHere();
            if (name == NONE) {
                return NONE;
            }
            int which = heap.find(kind, name);
            if (which == NONE) {
                text.fail(FAULT_NAME);
            }
            return which;
        }

        private int takeName(int kind) {
            int which = knownHere(kind);
            if (which != NONE) {
                text.next();
            }
            return which;
        }

        private boolean measure(int word, int least, int most, int[] row, int k) {
            if (text.word != word) {
                return text.fail(FAULT_TEXT);
            }
            text.next();
            row[k] = text.takeNumber(least, most);
            return row[k] != NONE;
        }
    }

    /** Reads a question, and answers it. */
    private static final class Question {
        private final Text text;
        private final Sums sums;
        private int form;

        Question(Text text, Sums sums) {
            this.text = text;
            this.sums = sums;
        }

        boolean read() {
            text.open();
            form = text.word;
            if (form < FIRST_WORD) {
                return text.fail(FAULT_TEXT);
            }
            text.next();
            boolean good = form < TOTAL_WORD ? sums.readTest() : sums.readQuestionSum();
            if (!good) {
                return false;
            }
            return text.kind == Text.END || text.fail(FAULT_TEXT);
        }

        long over(Heap heap, State state, Machine machine) {
            long result = form == FIRST_WORD || form == LAST_WORD ? NONE : 0;
            for (int letter = 0; letter < heap.count[LETTERS]; letter++) {
                int value = machine.valueFor(heap, state, letter, sums.code);
                if (form == FIRST_WORD && value != 0) {
                    return letter;
                }
                result = letter == 0 && form >= MOST_WORD ? value : with(result, letter, value);
            }
            return result;
        }

        private long with(long result, int letter, int value) {
            switch (form) {
                case LAST_WORD:
                    return value != 0 ? letter : result;
                case OFTEN_WORD:
                case TOTAL_WORD:
                    return result + value;
                case MOST_WORD:
                    return Math.max(result, value);
                case LEAST_WORD:
                    return Math.min(result, value);
                default:
                    return result;
            }
        }
    }

    /** Works code out for a letter and a helper. */
    private static final class Machine {
        private final int[] values = new int[VALUE_COUNT];
        private final int[] wishes = new int[GIFTS_MOST];
        private final int[] stack = new int[64];
        private int top;

        int timeOf(Heap heap, State state, int letter, int helper) {
            lookAt(heap, state, letter);
            values[HAND_VALUE] = heap.hand[helper];
            int time = run(heap.code, heap.from[Heap.TAKES_FORMULA], heap.to[Heap.TAKES_FORMULA]);
            return Math.max(1, Math.min(TIME_MOST, time));
        }

        int warmthOf(Heap heap, State state, int letter, int helper) {
            lookAt(heap, state, letter);
            values[HAND_VALUE] = heap.hand[helper];
            return run(heap.code, heap.from[Heap.WARM_FORMULA], heap.to[Heap.WARM_FORMULA]);
        }

        /** The time of a letter for a helper who can answer it; NONE when he can't. */
        int timeIfAble(Heap heap, State state, int letter, int helper) {
            if (state.doneBy[letter] != NONE || heap.bears[helper] < heap.grave[letter] || state.left[helper] == 0) {
                return NONE;
            }
            int time = timeOf(heap, state, letter, helper);
            return time <= state.left[helper] ? time : NONE;
        }

        int valueFor(Heap heap, State state, int letter, Code code) {
            lookAt(heap, state, letter);
            values[HAND_VALUE] = 0;
            return run(code, 0, code.size);
        }

        private void lookAt(Heap heap, State state, int letter) {
            System.arraycopy(heap.wish[letter], 0, wishes, 0, wishes.length);
            values[AGE_VALUE] = heap.age[letter];
            values[NEED_VALUE] = heap.need[letter];
            values[GRAVE_VALUE] = heap.grave[letter];
            values[WISHES_VALUE] = heap.allWishes(letter);
            values[DAY_VALUE] = state.day;
            values[NUMBER_VALUE] = letter;
            values[SHEET_VALUE] = state.sheetOf[letter];
            values[DONE_VALUE] = state.doneBy[letter] + 1;
            values[GIFT_VALUE] = state.giftOf[letter] + 1;
        }

        private int run(Code code, int from, int to) {
            top = 0;
            for (int k = from; k < to; k++) {
                int step = code.steps[k];
                if (step >= 0) {
                    push(step);
                } else if (step >= -VALUE_COUNT) {
                    push(values[-1 - step]);
                } else if (step > NOT) {
                    int right = pop();
                    push(pair(step, pop(), right));
                } else {
                    push(step == NOT ? 1 - pop() : wishOf(pop()));
                }
            }
            return pop();
        }

        private void push(int value) {
            if (top < stack.length) {
                stack[top++] = value;
            }
        }

        private int pop() {
            return top > 0 ? stack[--top] : 0;
        }

        private int wishOf(int gift) {
            return gift >= 0 && gift < wishes.length ? wishes[gift] : 0;
        }

        private static int pair(int step, int left, int right) {
            switch (step) {
                case ADD:
                    return kept((long) left + right);
                case SUBTRACT:
                    return kept((long) left - right);
                case MULTIPLY:
                    return kept((long) left * right);
                case DIVIDE:
                    return right == 0 ? 0 : Math.floorDiv(left, right);
                case LESSER:
                    return left < right ? left : right;
                case GREATER:
                    return left > right ? left : right;
                case BELOW:
                    return left < right ? 1 : 0;
                case ABOVE:
                    return left > right ? 1 : 0;
                case EQUAL:
                    return left == right ? 1 : 0;
                case AND:
                    return left & right;
                default:
                    return left | right;
            }
        }

        private static int kept(long value) {
            if (value > VALUE_MOST) {
                return VALUE_MOST;
            }
            return value < -VALUE_MOST ? -VALUE_MOST : (int) value;
        }
    }

    /** What changes by acts. */
    private static final class State {
        int day;
        final int[] left = new int[HELPERS_MOST];
        final int[] stock = new int[GIFTS_MOST];
        final int[] doneBy = new int[LETTERS_MOST];
        final int[] sheetOf = new int[LETTERS_MOST];
        final int[] giftOf = new int[LETTERS_MOST];

        State() {
            Arrays.fill(doneBy, NONE);
            Arrays.fill(giftOf, NONE);
        }

        void begin(Heap heap) {
            day = 0;
            Arrays.fill(stock, 0);
            Arrays.fill(doneBy, NONE);
            Arrays.fill(sheetOf, 0);
            Arrays.fill(giftOf, NONE);
            System.arraycopy(heap.stock, 0, stock, 0, heap.count[GIFTS]);
            rest(heap);
        }

        /** Gives the helpers their minutes for the next evening. */
        void rest(Heap heap) {
            Arrays.fill(left, 0);
            System.arraycopy(heap.minutes, 0, left, 0, heap.count[HELPERS]);
        }

        void copyFrom(State other) {
            day = other.day;
            System.arraycopy(other.left, 0, left, 0, left.length);
            System.arraycopy(other.stock, 0, stock, 0, stock.length);
            System.arraycopy(other.doneBy, 0, doneBy, 0, doneBy.length);
            System.arraycopy(other.sheetOf, 0, sheetOf, 0, sheetOf.length);
            System.arraycopy(other.giftOf, 0, giftOf, 0, giftOf.length);
        }

        int countDone() {
            return LETTERS_MOST - countOf(doneBy, NONE);
        }

        int countSheets() {
            return LETTERS_MOST - countOf(sheetOf, 0);
        }

        int countGiven() {
            return LETTERS_MOST - countOf(giftOf, NONE);
        }

        int countLeft() {
            int all = 0;
            for (int minutes : left) {
                all += minutes;
            }
            return all;
        }

        int doneByHelper(int helper) {
            int bits = 0;
            for (int letter = 0; letter < LETTERS_MOST; letter++) {
                if (doneBy[letter] == helper) {
                    bits |= 1 << letter;
                }
            }
            return bits;
        }

        boolean hasSheetNear(Heap heap, int letter, int kind) {
            for (int other = 0; other < heap.count[LETTERS]; other++) {
                if (heap.isNear(letter, other) && sheetOf[other] == kind) {
                    return true;
                }
            }
            return false;
        }

        /** Whether an image of this heap may tell this state. */
        boolean canBe(Heap heap) {
            boolean good = day <= DAY_MOST;
            for (int helper = 0; helper < heap.count[HELPERS]; helper++) {
                good = good && left[helper] <= heap.minutes[helper];
            }
            for (int gift = 0; gift < heap.count[GIFTS]; gift++) {
                good = good && stock[gift] <= heap.stock[gift];
            }
            for (int letter = 0; letter < heap.count[LETTERS]; letter++) {
                good = good && letterCanBe(heap, letter);
            }
            return good;
        }

        private boolean letterCanBe(Heap heap, int letter) {
            return doneBy[letter] < heap.count[HELPERS]
                    && giftOf[letter] < heap.count[GIFTS]
                    && sheetOf[letter] <= SHEETS_MOST
                    && (sheetOf[letter] == 0 || !hasSheetNear(heap, letter, sheetOf[letter]));
        }

        private static int countOf(int[] row, int value) {
            int count = 0;
            for (int each : row) {
                if (each == value) {
                    count++;
                }
            }
            return count;
        }
    }

    /**
     * The warmest answers. How good an answer is stands in one number: one letter more outweighs all warmth, warmth
     * all rows, and the row (two bits a letter, the first letter highest) is taken off, so that the first row is the
     * greatest of like ones. These numbers add up, so the best sum for each set of letters is found helper by helper.
     */
    private static final class Evening {
        private static final int ROW_BITS = 2 * LETTERS_MOST;
        private static final int WARMTH_BITS = 28;
        private static final int SETS = 1 << LETTERS_MOST;

        private final Machine machine;
        final int[] helperFor = new int[LETTERS_MOST];
        int answers;
        long together;
        private final int[][] times = new int[HELPERS_MOST][LETTERS_MOST];
        private final long[][] worth = new long[HELPERS_MOST][LETTERS_MOST];
        private final int[] spent = new int[SETS];
        private final long[] gain = new long[SETS];
        private final long[] best = new long[SETS];

        Evening(Machine machine) {
            this.machine = machine;
        }

        void plan(Heap heap, State state) {
            int open = 0;
            for (int letter = 0; letter < heap.count[LETTERS]; letter++) {
                if (weigh(heap, state, letter, open)) {
                    open++;
                }
            }
            int all = (1 << open) - 1;
            Arrays.fill(best, 0, all + 1, NONE);
            best[0] = 0;
            for (int helper = 0; helper < heap.count[HELPERS] && open > 0; helper++) {
                price(helper, all, state.left[helper]);
                spread(all);
            }
            long most = 0;
            for (int set = 1; set <= all; set++) {
                most = Math.max(most, best[set]);
            }
            readOff(most);
        }

        /** Gives the answers of the plan; the next day comes. */
        void close(Heap heap, State state) {
            for (int letter = 0; letter < heap.count[LETTERS]; letter++) {
                if (helperFor[letter] != NONE) {
                    state.doneBy[letter] = helperFor[letter];
                }
            }
            state.day++;
            state.rest(heap);
        }

        /** Whether anybody can answer this letter; its times and what its answers are worth go to this column. */
        private boolean weigh(Heap heap, State state, int letter, int column) {
            boolean any = false;
            for (int helper = 0; helper < heap.count[HELPERS]; helper++) {
                int time = machine.timeIfAble(heap, state, letter, helper);
                times[helper][column] = time;
                if (time != NONE) {
                    any = true;
                    long warmth = machine.warmthOf(heap, state, letter, helper);
                    long row = (long) (helper + 1) << rowShift(letter);
                    worth[helper][column] = (((1L << WARMTH_BITS) + warmth) << ROW_BITS) - row;
                }
            }
            return any;
        }

        /** What each set of letters is worth, answered by this helper; NONE when he can't answer all of it. */
        private void price(int helper, int all, int left) {
            gain[0] = 0;
            spent[0] = 0;
            int column = 0;
            for (int set = 1; set <= all; set++) {
                if (set == 2 << column) {
                    column++;
                }
                int rest = set ^ (1 << column);
                int time = times[helper][column];
                spent[set] = spent[rest] + time;
                boolean good = gain[rest] != NONE && time != NONE && spent[set] <= left;
                gain[set] = good ? gain[rest] + worth[helper][column] : NONE;
            }
        }

        /** Lets the helper answer a set beside each set answered so far: greater sets first, so that he comes once. */
        private void spread(int all) {
            for (int done = all; done >= 0; done--) {
                if (best[done] == NONE) {
                    continue;
                }
                int rest = all ^ done;
                for (int set = rest; set > 0; set = (set - 1) & rest) {
                    if (gain[set] != NONE) {
                        best[done | set] = Math.max(best[done | set], best[done] + gain[set]);
                    }
                }
            }
        }

        private void readOff(long most) {
            int row = (int) (-most & ((1 << ROW_BITS) - 1));
            answers = 0;
            for (int letter = 0; letter < LETTERS_MOST; letter++) {
                helperFor[letter] = ((row >> rowShift(letter)) & 3) - 1;
                answers += helperFor[letter] == NONE ? 0 : 1;
            }
            together = ((most + row) >> ROW_BITS) - ((long) answers << WARMTH_BITS);
        }

        private static int rowShift(int letter) {
            return ROW_BITS - 2 - 2 * letter;
        }
    }

    /** The gifts left, shared among letters without one. A stock of all gifts is a number, two bits a gift. */
    private static final class Sharing {
        private static final int STOCKS = 1 << 2 * GIFTS_MOST;

        final int[] giftFor = new int[LETTERS_MOST];
        int together;
        private final int[] takers = new int[LETTERS_MOST];
        private final int[][] best = new int[LETTERS_MOST + 1][STOCKS];

        void plan(Heap heap, State state) {
            int count = 0;
            for (int letter = 0; letter < heap.count[LETTERS]; letter++) {
                giftFor[letter] = NONE;
                if (state.giftOf[letter] == NONE && heap.need[letter] > 0 && heap.allWishes(letter) > 0) {
                    takers[count++] = letter;
                }
            }
            int stock = 0;
            for (int gift = 0; gift < heap.count[GIFTS]; gift++) {
                stock |= (state.stock[gift] & 3) << 2 * gift;
            }
            Arrays.fill(best[count], 0, stock + 1, 0);
            for (int row = count - 1; row >= 0; row--) {
                for (int left = 0; left <= stock; left++) {
                    best[row][left] = isWithin(left, stock) ? mostFrom(heap, row, left) : 0;
                }
            }
            together = best[0][stock];
            choose(heap, count, stock);
        }

        private static boolean isWithin(int left, int stock) {
            for (int shift = 0; shift < 2 * GIFTS_MOST; shift += 2) {
                if (((left >> shift) & 3) > ((stock >> shift) & 3)) {
                    return false;
                }
            }
            return true;
        }

        private int mostFrom(Heap heap, int row, int left) {
            int most = best[row + 1][left];
            for (int gift = 0; gift < heap.count[GIFTS]; gift++) {
                most = Math.max(most, mostBy(heap, row, left, gift));
            }
            return most;
        }

        /** The most from this taker on, if he gets this gift; NONE when none is left. */
        private int mostBy(Heap heap, int row, int left, int gift) {
            if (((left >> 2 * gift) & 3) == 0) {
                return NONE;
            }
            int letter = takers[row];
            return heap.need[letter] * heap.wish[letter][gift] + best[row + 1][left - (1 << 2 * gift)];
        }

        private void choose(Heap heap, int count, int stock) {
            int left = stock;
            for (int row = 0; row < count; row++) {
                if (best[row + 1][left] == best[row][left]) {
                    continue;
                }
                for (int gift = 0; gift < heap.count[GIFTS]; gift++) {
                    if (mostBy(heap, row, left, gift) == best[row][left]) {
                        giftFor[takers[row]] = gift;
                        left -= 1 << 2 * gift;
                        break;
                    }
                }
            }
        }
    }

    /** Letters by kinds of sheet, and by the children who may have written them. */
    private static final class Sorting {
        final int[] kindFor = new int[LETTERS_MOST];
        final int[] groupFor = new int[LETTERS_MOST];
        int kinds;
        int groups;
        private final int[] row = new int[LETTERS_MOST];
        private final long[] hope = new long[LETTERS_MOST + 1];
        private long best;

        void chooseSheets(Heap heap) {
            kinds = 0;
            for (int most = 0; most <= LETTERS_MOST; most++) {
                if (paint(heap, 0, 0, most)) {
                    kinds = most;
                    return;
                }
            }
        }

        /** Finds the first row from this letter on; a kind not used so far is as good as each other such one. */
        private boolean paint(Heap heap, int letter, int used, int most) {
            if (letter >= heap.count[LETTERS]) {
                return true;
            }
            for (int kind = 1; kind <= most && kind <= used + 1; kind++) {
                kindFor[letter] = kind;
                if (isFree(heap, letter, kind) && paint(heap, letter + 1, Math.max(used, kind), most)) {
                    return true;
                }
            }
            return false;
        }

        private boolean isFree(Heap heap, int letter, int kind) {
            for (int other = 0; other < letter; other++) {
                if (heap.isNear(letter, other) && kindFor[other] == kind) {
                    return false;
                }
            }
            return true;
        }

        void chooseGroups(Heap heap) {
            int letters = heap.count[LETTERS];
            hope[letters] = 1;
            for (int letter = letters - 1; letter >= 0; letter--) {
                hope[letter] = hope[letter + 1] * bestOdds(heap, letter);
            }
            best = NONE;
            groups = 0;
            place(heap, 0, 0, 1);
        }

        private long bestOdds(Heap heap, int letter) {
            long product = 1;
            for (int other = 0; other < letter; other++) {
                int odds = heap.odds[letter][other];
                product *= odds == NONE ? 1 : Math.max(odds, ODDS_MOST - odds);
            }
            return product;
        }

        /** Tries the rows in their order; one that can't become better than the best so far is left. */
        private void place(Heap heap, int letter, int used, long product) {
            if (product * hope[letter] <= best) {
                return;
            }
            if (letter >= heap.count[LETTERS]) {
                best = product;
                groups = used;
                System.arraycopy(row, 0, groupFor, 0, letter);
                return;
            }
            for (int group = 0; group <= used; group++) {
                row[letter] = group;
                place(heap, letter + 1, Math.max(used, group + 1), product * oddsOf(heap, letter));
            }
        }

        private long oddsOf(Heap heap, int letter) {
            long product = 1;
            for (int other = 0; other < letter; other++) {
                int odds = heap.odds[letter][other];
                if (odds != NONE) {
                    product *= row[letter] == row[other] ? odds : ODDS_MOST - odds;
                }
            }
            return product;
        }
    }
}
