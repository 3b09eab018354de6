import java.util.ArrayList;
import java.util.Arrays;
import java.util.List;

/** The document once more, by trying all rows in their order, to compare the class with. */
final class Naive {
    private static final long NOTHING = -1000000000000000L;

    private static final class State {
        int day;
        int[] left;
        int[] stock;
        int[] by;
        int[] sheet;
        int[] gift;

        State copy() {
            State state = new State();
            state.day = day;
            state.left = left.clone();
            state.stock = stock.clone();
            state.by = by.clone();
            state.sheet = sheet.clone();
            state.gift = gift.clone();
            return state;
        }
    }

    private StringBuilder tape = new StringBuilder();
    private NaiveText heap;
    private State now;
    private final List<State> past = new ArrayList<>();
    private List<int[]> minutes = new ArrayList<>();
    private final int[] refused = new int[6];
    private int fault;
    private int place = -1;
    private int[] image = new int[0];
    private long seed = 1;

    Naive() {
        try {
            heap = NaiveText.heap("");
        } catch (NaiveText.Fault never) {
            throw new IllegalStateException(never);
        }
        now = fresh();
    }

    int letters() {
        return heap.letters.size();
    }

    int gifts() {
        return heap.gifts.size();
    }

    int helpers() {
        return heap.helpers.size();
    }

    private State fresh() {
        State state = new State();
        state.left = new int[helpers()];
        state.stock = new int[gifts()];
        state.by = new int[letters()];
        state.sheet = new int[letters()];
        state.gift = new int[letters()];
        Arrays.fill(state.by, -1);
        Arrays.fill(state.gift, -1);
        for (int g = 0; g < gifts(); g++) {
            state.stock[g] = heap.stocks.get(g);
        }
        rest(state);
        return state;
    }

    private void rest(State state) {
        for (int h = 0; h < helpers(); h++) {
            state.left[h] = heap.helperNumbers.get(h)[0];
        }
    }

    private int no(int what) {
        refused[what]++;
        return -1;
    }

    private int wrong(int what) {
        refused[what]++;
        return 0;
    }

    long feed(int... numbers) {
        if (tape.length() + 20 > 1600) {
            return no(0);
        }
        for (int number : numbers) {
            for (int k = 0; k < 4; k++) {
                tape.append((char) (number >>> 8 * (3 - k) & 255));
            }
        }
        return tape.length();
    }

    long end(int n) {
        if (n < 0 || n > tape.length()) {
            return wrong(0);
        }
        tape.setLength(n);
        return 1;
    }

    private String takeTape() {
        String text = tape.toString();
        tape = new StringBuilder();
        return text;
    }

    long heap() {
        fault = 0;
        place = -1;
        try {
            heap = NaiveText.heap(takeTape());
        } catch (NaiveText.Fault found) {
            fault = found.what;
            place = found.place;
            return no(1);
        }
        now = fresh();
        past.clear();
        minutes.clear();
        return heap.statements;
    }

    long ask() {
        fault = 0;
        place = -1;
        NaiveText question;
        try {
            question = NaiveText.question(takeTape());
        } catch (NaiveText.Fault found) {
            fault = found.what;
            place = found.place;
            return NOTHING;
        }
        long first = -1;
        long last = -1;
        long total = 0;
        long most = 0;
        long least = 0;
        for (int l = 0; l < letters(); l++) {
            long value = question.asked.in(values(now, l, -1));
            first = first == -1 && value != 0 ? l : first;
            last = value != 0 ? l : last;
            total += value;
            most = l == 0 ? value : Math.max(most, value);
            least = l == 0 ? value : Math.min(least, value);
        }
        switch (question.form) {
            case "first":
                return first;
            case "last":
                return last;
            case "most":
                return most;
            case "least":
                return least;
            default:
                return total;
        }
    }

    private NaiveText.Values values(State state, int l, int h) {
        return new NaiveText.Values() {
            @Override
            public long of(String word) {
                switch (word) {
                    case "age":
                        return heap.letterNumbers.get(l)[0];
                    case "need":
                        return heap.letterNumbers.get(l)[1];
                    case "grave":
                        return heap.letterNumbers.get(l)[2];
                    case "hand":
                        return heap.helperNumbers.get(h)[1];
                    case "wishes":
                        return Arrays.stream(heap.wishes[l]).sum();
                    case "day":
                        return state.day;
                    case "number":
                        return l;
                    case "sheet":
                        return state.sheet[l];
                    case "done":
                        return state.by[l] + 1;
                    default:
                        return state.gift[l] + 1;
                }
            }

            @Override
            public long wish(long gift) {
                return gift >= 0 && gift < gifts() ? heap.wishes[l][(int) gift] : 0;
            }
        };
    }

    long fault(int what) {
        return what == 0 ? fault : what == 1 ? place : -1;
    }

    private static int unlike(int[] row, int value) {
        return (int) Arrays.stream(row).filter(each -> each != value).count();
    }

    long has(int what) {
        int[] all = {letters(), gifts(), helpers(), heap.nears.size(), heap.likes.size(), now.day,
            unlike(now.by, -1), unlike(now.sheet, 0), unlike(now.gift, -1), Arrays.stream(now.left).sum(),
            minutes.size(), past.size()};
        return what < 0 || what >= all.length ? -1 : all[what];
    }

    long letter(int kind, int which, int k) {
        if (kind < 0 || kind > 2 || k < 0 || k > 5) {
            return -1;
        }
        List<String> names = kind == 0 ? heap.letters : kind == 1 ? heap.gifts : heap.helpers;
        if (which < 0 || which >= names.size()) {
            return -1;
        }
        return k < names.get(which).length() ? names.get(which).charAt(k) - 96 : 0;
    }

    private boolean isLetter(int l) {
        return l >= 0 && l < letters();
    }

    private boolean near(int one, int other) {
        return heap.nears.stream().anyMatch(p -> p[0] == one && p[1] == other || p[0] == other && p[1] == one);
    }

    long mail(int l, int what) {
        if (!isLetter(l)) {
            return -1;
        }
        int bits = 0;
        for (int k = 0; k < letters(); k++) {
            bits += near(l, k) ? 1 << k : 0;
        }
        int[] n = heap.letterNumbers.get(l);
        int[] all = {n[0], n[1], n[2], now.by[l], now.sheet[l], now.gift[l],
            Arrays.stream(heap.wishes[l]).sum(), bits};
        return what < 0 || what >= all.length ? -1 : all[what];
    }

    long gift(int g, int what) {
        if (g < 0 || g >= gifts()) {
            return -1;
        }
        if (what == 0) {
            return now.stock[g];
        }
        return what >= 10 && isLetter(what - 10) ? heap.wishes[what - 10][g] : -1;
    }

    long helper(int h, int what) {
        if (h < 0 || h >= helpers()) {
            return -1;
        }
        int bits = 0;
        for (int l = 0; l < letters(); l++) {
            bits += now.by[l] == h ? 1 << l : 0;
        }
        int[] n = heap.helperNumbers.get(h);
        int[] all = {n[0], n[1], n[2], now.left[h], bits};
        return what < 0 || what >= all.length ? -1 : all[what];
    }

    private boolean both(int l, int h) {
        return isLetter(l) && h >= 0 && h < helpers();
    }

    private int time(State state, int l, int h) {
        long time = heap.takes == null ? 20 : heap.takes.in(values(state, l, h));
        return (int) Math.max(1, Math.min(999, time));
    }

    private long warmth(State state, int l, int h) {
        return heap.warm == null ? heap.helperNumbers.get(h)[1] : heap.warm.in(values(state, l, h));
    }

    private boolean bears(int l, int h) {
        return heap.helperNumbers.get(h)[2] >= heap.letterNumbers.get(l)[2];
    }

    long takes(int l, int h) {
        return both(l, h) ? time(now, l, h) : -1;
    }

    long warmth(int l, int h) {
        return both(l, h) ? warmth(now, l, h) : NOTHING;
    }

    long can(int l, int h) {
        return !both(l, h) ? -1 : now.by[l] == -1 && bears(l, h) && now.left[h] >= time(now, l, h) ? 1 : 0;
    }

    private int[] bestRow;
    private int bestCount;
    private long bestWarmth;

    private void plan(State state) {
        bestCount = -1;
        int[][] times = new int[letters()][helpers()];
        long[][] warmths = new long[letters()][helpers()];
        for (int l = 0; l < letters(); l++) {
            for (int h = 0; h < helpers(); h++) {
                times[l][h] = time(state, l, h);
                warmths[l][h] = warmth(state, l, h);
            }
        }
        tryRows(state, times, warmths, new int[letters()], 0, state.left.clone(), 0, 0);
    }

    private void tryRows(State state, int[][] times, long[][] warmths, int[] row, int l, int[] left, int count,
            long warm) {
        if (l == letters()) {
            if (count > bestCount || count == bestCount && warm > bestWarmth) {
                bestCount = count;
                bestWarmth = warm;
                bestRow = row.clone();
            }
            return;
        }
        row[l] = -1;
        tryRows(state, times, warmths, row, l + 1, left, count, warm);
        for (int h = 0; h < helpers(); h++) {
            if (state.by[l] == -1 && bears(l, h) && left[h] >= times[l][h]) {
                left[h] -= times[l][h];
                row[l] = h;
                tryRows(state, times, warmths, row, l + 1, left, count + 1, warm + warmths[l][h]);
                left[h] += times[l][h];
            }
        }
    }

    long warmest(int l) {
        plan(now);
        return l == -1 ? bestCount : isLetter(l) ? bestRow[l] : -1;
    }

    long warms() {
        plan(now);
        return bestWarmth;
    }

    private int goBy(State state) {
        plan(state);
        for (int l = 0; l < letters(); l++) {
            state.by[l] = bestRow[l] == -1 ? state.by[l] : bestRow[l];
        }
        state.day++;
        rest(state);
        return bestCount;
    }

    long later(int n) {
        if (n < 0 || n > 30 || now.day + n > 999) {
            return -1;
        }
        State state = now.copy();
        for (int k = 0; k < n; k++) {
            goBy(state);
        }
        return unlike(state.by, -1);
    }

    long finished() {
        for (int n = 0; n <= 30; n++) {
            if (later(n) == letters()) {
                return n;
            }
        }
        return -1;
    }

    private boolean apart(int[] row) {
        return heap.nears.stream().noneMatch(p -> row[p[0]] == row[p[1]]);
    }

    /** The next row of numbers from 0 to most - 1; false behind the last. */
    private static boolean step(int[] row, int most) {
        for (int k = row.length - 1; k >= 0; k--) {
            if (row[k] < most - 1) {
                row[k]++;
                return true;
            }
            row[k] = 0;
        }
        return false;
    }

    long sheets(int l) {
        if (l != -1 && !isLetter(l)) {
            return -1;
        }
        int[] row = new int[letters()];
        if (letters() == 0) {
            return 0;
        }
        for (int kinds = 1; ; kinds++) {
            Arrays.fill(row, 0);
            do {
                if (apart(row)) {
                    return l == -1 ? kinds : row[l] + 1;
                }
            } while (step(row, kinds));
        }
    }

    private int sharedMost;
    private int[] sharedRow;

    private void tryGifts(int[] row, int l, int[] stock, int value) {
        if (l == letters()) {
            if (value > sharedMost) {
                sharedMost = value;
                sharedRow = row.clone();
            }
            return;
        }
        row[l] = -1;
        tryGifts(row, l + 1, stock, value);
        for (int g = 0; g < gifts(); g++) {
            if (now.gift[l] == -1 && stock[g] > 0) {
                stock[g]--;
                row[l] = g;
                tryGifts(row, l + 1, stock, value + heap.letterNumbers.get(l)[1] * heap.wishes[l][g]);
                stock[g]++;
            }
        }
    }

    long shared(int l) {
        sharedMost = -1;
        tryGifts(new int[letters()], 0, now.stock.clone(), 0);
        return l == -1 ? sharedMost : isLetter(l) ? sharedRow[l] : -1;
    }

    long tell(int what) {
        int best = -1;
        int least = Integer.MAX_VALUE;
        for (int from = 0; from <= 11; from++) {
            int others = 0;
            int these = 0;
            for (int[] n : heap.letterNumbers) {
                if (n[2] >= from) {
                    these += 10 - n[2];
                } else {
                    others += n[2];
                }
            }
            if (heap.missed * others + these < least) {
                least = heap.missed * others + these;
                best = from;
            }
        }
        return what == 0 ? best : what == 1 ? least : -1;
    }

    long children(int l) {
        if (l != -1 && !isLetter(l)) {
            return -1;
        }
        if (grouped != heap) {
            groups = bestGroups();
            grouped = heap;
        }
        return l == -1 ? Arrays.stream(groups).max().orElse(-1) + 1 : groups[l];
    }

    private NaiveText grouped;
    private int[] groups;

    private int[] bestGroups() {
        int[] row = new int[letters()];
        int[] best = row.clone();
        long most = -1;
        do {
            if (isGrouping(row)) {
                long product = 1;
                for (int[] p : heap.likes) {
                    product *= row[p[0]] == row[p[1]] ? p[2] : 10 - p[2];
                }
                if (product > most) {
                    most = product;
                    best = row.clone();
                }
            }
        } while (step(row, letters()));
        return best;
    }

    private static boolean isGrouping(int[] row) {
        int told = 0;
        for (int group : row) {
            if (group > told) {
                return false;
            }
            told = Math.max(told, group + 1);
        }
        return true;
    }

    long see() {
        String text = takeTape();
        int rows = text.length() / 3;
        if (text.length() % 3 != 0 || rows < 1 || rows > 16) {
            return no(1);
        }
        List<int[]> told = new ArrayList<>();
        for (int k = 0; k < rows; k++) {
            int l = text.charAt(3 * k);
            if (!isLetter(l)) {
                return no(1);
            }
            told.add(new int[] {l, text.charAt(3 * k + 1) * 256 + text.charAt(3 * k + 2)});
        }
        minutes = told;
        return rows;
    }

    long whose() {
        int bits = 0;
        for (int h = 0; h < helpers(); h++) {
            int helper = h;
            if (minutes.stream().allMatch(m -> time(now, m[0], helper) == m[1])) {
                bits |= 1 << h;
            }
        }
        return bits;
    }

    long watched(int what) {
        long helpers = whose();
        int best = -1;
        int fewest = 99;
        for (int l = 0; l < letters() && helpers != 0; l++) {
            int[] often = new int[1000];
            for (int h = 0; h < helpers(); h++) {
                often[time(now, l, h)] += helpers >> h & 1;
            }
            int most = Arrays.stream(often).max().getAsInt();
            if (most < fewest) {
                fewest = most;
                best = l;
            }
        }
        return best == -1 ? -1 : what == 0 ? best : what == 1 ? fewest : -1;
    }

    private void remember() {
        past.add(now.copy());
        if (past.size() > 20) {
            past.remove(0);
        }
    }

    long answer(int l, int h) {
        if (can(l, h) != 1) {
            return no(2);
        }
        remember();
        int time = time(now, l, h);
        now.by[l] = h;
        now.left[h] -= time;
        return time;
    }

    long sheet(int l, int kind) {
        if (!isLetter(l) || kind < 1 || kind > 4 || now.sheet[l] == kind) {
            return wrong(2);
        }
        for (int k = 0; k < letters(); k++) {
            if (near(l, k) && now.sheet[k] == kind) {
                return wrong(2);
            }
        }
        remember();
        now.sheet[l] = kind;
        return 1;
    }

    long give(int l, int g) {
        if (!isLetter(l) || g < 0 || g >= gifts() || now.gift[l] != -1 || now.stock[g] == 0) {
            return no(2);
        }
        remember();
        now.gift[l] = g;
        return --now.stock[g];
    }

    long evenings(int n) {
        if (n < 1 || n > 50 || now.day + n > 999) {
            return no(3);
        }
        remember();
        int all = 0;
        for (int k = 0; k < n; k++) {
            all += goBy(now);
        }
        return all;
    }

    long chance(int n) {
        if (n < 1 || n > 50 || now.day + n > 999) {
            return no(3);
        }
        remember();
        int colds = 0;
        for (int k = 0; k < n; k++) {
            for (int h = 0; h < helpers(); h++) {
                seed = (1103515245L * seed + 12345) % (1L << 31);
                if (seed / 64 % 100 < heap.cold) {
                    now.left[h] = 0;
                    colds++;
                }
            }
            goBy(now);
        }
        return colds;
    }

    long undo() {
        if (past.isEmpty()) {
            return wrong(4);
        }
        now = past.remove(past.size() - 1);
        return 1;
    }

    long seed(int x) {
        if (x < 0) {
            return wrong(5);
        }
        seed = x;
        return 1;
    }

    long image() {
        List<Integer> all = new ArrayList<>();
        all.add(now.day / 256);
        all.add(now.day % 256);
        Arrays.stream(now.left).forEach(all::add);
        Arrays.stream(now.stock).forEach(all::add);
        for (int l = 0; l < letters(); l++) {
            all.addAll(Arrays.asList(now.by[l] + 1, now.sheet[l], now.gift[l] + 1));
        }
        int c = 89;
        for (int each : all) {
            c = (3 * c + each) % 251;
        }
        all.add(c);
        image = all.stream().mapToInt(Integer::intValue).toArray();
        return image.length;
    }

    long octet(int k) {
        return k < 0 || k >= image.length ? -1 : image[k];
    }

    long on() {
        String text = takeTape();
        if (text.length() != 3 + helpers() + gifts() + 3 * letters()) {
            return wrong(5);
        }
        int c = 89;
        for (int k = 0; k < text.length() - 1; k++) {
            c = (3 * c + text.charAt(k)) % 251;
        }
        State state = fresh();
        state.day = text.charAt(0) * 256 + text.charAt(1);
        boolean good = c == text.charAt(text.length() - 1) && state.day <= 999;
        int at = 2;
        for (int h = 0; h < helpers(); h++) {
            good &= text.charAt(at) <= state.left[h];
            state.left[h] = text.charAt(at++);
        }
        for (int g = 0; g < gifts(); g++) {
            good &= text.charAt(at) <= state.stock[g];
            state.stock[g] = text.charAt(at++);
        }
        for (int l = 0; l < letters(); l++) {
            state.by[l] = text.charAt(at++) - 1;
            state.sheet[l] = text.charAt(at++);
            state.gift[l] = text.charAt(at++) - 1;
            good &= state.by[l] < helpers() && state.sheet[l] <= 4 && state.gift[l] < gifts();
        }
        for (int[] p : heap.nears) {
            good &= state.sheet[p[0]] == 0 || state.sheet[p[0]] != state.sheet[p[1]];
        }
        if (!good) {
            return wrong(5);
        }
        now = state;
        past.clear();
        return 1;
    }

    long status(int what) {
        return what < 0 || what > 5 ? -1 : refused[what];
    }
}
