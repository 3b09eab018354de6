/** Runs of drawn calls, on the class and on Naive: each answer is the same. */
public final class DifferentialTest {
    private static final int RUNS = 400;
    private static final int CALLS = 500;
    private static final String[] NAMES = {"a", "b", "c", "d", "e", "f", "g", "h", "ab", "lisa", "first", "total",
        "zzzzzz", "abcdef", "x", "y", "z", "u", "v", "w"};
    private static final String[] SIGNS = {"+", "-", "*", "/"};
    private static final String BYTES = "az09;()[]<>=+-*/,._A \n\t\0";
    private static final String[] WORDS = {"letter", "age", "need", "grave", "gift", "stock", "wish", "near", "like",
        "helper", "time", "hand", "bears", "takes", "warm", "missed", "cold", "wishes", "day", "number", "sheet", "done",
        "or", "and", "not", "all", "min", "max", "first", "last", "often", "total", "most", "least"};
    private static final Check check = new Check("DifferentialTest");

    private static DearLetters mail;
    private static Naive naive;
    private static String log;
    private static final java.util.Set<String> told = new java.util.HashSet<>();

    public static void main(String[] args) {
        for (int run = 0; run < RUNS && check.isClean(); run++) {
            check.seedDraws(1000 + run);
            mail = new DearLetters();
            naive = new Naive();
            log = "run " + run;
            int calls = sayHeap();
            while (calls < CALLS - 200 && check.isClean()) {
                calls += episode();
            }
        }
        check.finish();
    }

    private static int draw(int m) {
        return check.draw(m);
    }

    private static void due(String call, long got, long want) {
        check.due(log + ": " + call, got, want);
    }

    private static void due(String call, boolean got, long want) {
        check.due(log + ": " + call, got ? 1 : 0, want);
    }

    private static int episode() {
        switch (draw(16)) {
            case 0:
                return sayHeap();
            case 1:
            case 2:
                return askSomething();
            case 3:
                return seeSomething();
            case 4:
                return goOn();
            case 5:
            case 6:
            case 7:
                return lookAtAll();
            default:
                return act();
        }
    }

    private static int feed(String text) {
        due("end(0)", mail.end(0), naive.end(0));
        int calls = 2;
        int[] n = new int[5];
        for (int from = 0; from < text.length(); from += 20) {
            for (int k = 0; k < 20; k++) {
                int at = from + k;
                n[k / 4] = n[k / 4] << 8 | (at < text.length() ? text.charAt(at) & 255 : draw(256));
            }
            due("feed", mail.feed(n[0], n[1], n[2], n[3], n[4]), naive.feed(n));
            calls++;
        }
        due("end", mail.end(text.length()), naive.end(text.length()));
        return calls;
    }

    private static int sayHeap() {
        String text = heapText();
        if (draw(3) == 0) {
            text = spoil(text);
        }
        if (text.length() > 1600) {
            text = text.substring(0, 1600);
        }
        int calls = feed(text);
        log = "heap \"" + text + "\"";
        due("heap()", mail.heap(), naive.heap());
        faults();
        return calls + 3;
    }

    private static void faults() {
        due("fault(0)", mail.fault(0), naive.fault(0));
        due("fault(1)", mail.fault(1), naive.fault(1));
    }

    private static String pick(String... texts) {
        return texts[draw(texts.length)];
    }

    private static String blank() {
        return draw(6) > 0 ? " " : pick("  ", "\n", " \n ");
    }

    private static String loose() {
        return draw(4) > 0 ? "" : blank();
    }

    private static String spoil(String text) {
        StringBuilder all = new StringBuilder(text);
        for (int k = draw(2); k >= 0; k--) {
            int at = draw(all.length() + 1);
            switch (draw(5)) {
                case 0:
                    all.setLength(at);
                    break;
                case 1:
                    all.insert(at, BYTES.charAt(draw(BYTES.length())));
                    break;
                case 2:
                    if (at < all.length()) {
                        all.deleteCharAt(at);
                    }
                    break;
                case 3:
                    all.insert(at, pick(WORDS));
                    break;
                default:
                    if (at < all.length()) {
                        all.setCharAt(at, BYTES.charAt(draw(BYTES.length())));
                    }
            }
        }
        return all.toString();
    }

    private static String heapText() {
        StringBuilder all = new StringBuilder();
        int letters = draw(6) == 0 ? 7 + draw(2) : draw(7);
        int gifts = draw(5);
        int helpers = draw(4);
        int easy = draw(2);
        for (int k = 0; k < letters; k++) {
            all.append("letter").append(blank()).append(NAMES[k]).append(blank()).append("age ").append(draw(21));
            all.append(blank()).append("need ").append(draw(10)).append(" grave ").append(draw(easy == 0 ? 11 : 4));
            all.append(loose()).append(';').append(loose());
        }
        for (int k = 0; k < gifts; k++) {
            all.append("gift ").append(NAMES[9 + k]).append(" stock ").append(draw(4)).append(';').append(loose());
        }
        for (int k = 0; k < helpers; k++) {
            all.append("helper ").append(NAMES[15 + k]).append(" time ").append(1 + draw(60)).append(" hand ");
            all.append(draw(10)).append(" bears ").append(draw(11)).append(';').append(loose());
        }
        told.clear();
        if (draw(3) == 0) {
            all.append(manyPairs(letters));
        }
        for (int k = draw(4) == 0 ? draw(50) : draw(15); k > 0; k--) {
            all.append(laterStatement(letters, gifts)).append(loose()).append(';').append(loose());
        }
        return all.toString();
    }

    private static String manyPairs(int letters) {
        StringBuilder all = new StringBuilder();
        int nears = 20;
        int likes = 10;
        for (int one = 0; one < letters; one++) {
            for (int other = 0; other < one; other++) {
                if (draw(4) > 0 && nears-- > 0) {
                    all.append("near ").append(NAMES[one]).append(' ').append(NAMES[other]).append(';');
                    told.add(NAMES[one] + NAMES[other]);
                    told.add(NAMES[other] + NAMES[one]);
                }
                if (draw(2) > 0 && likes-- > 0) {
                    all.append("like ").append(NAMES[other]).append(' ').append(NAMES[one]).append(' ');
                    all.append(draw(11)).append(';');
                }
            }
        }
        return all.toString();
    }

    private static String letterName(int letters) {
        return draw(60) == 0 ? pick(NAMES) : NAMES[draw(Math.max(1, letters))];
    }

    private static String laterStatement(int letters, int gifts) {
        String one = letterName(letters);
        String other = letterName(letters);
        boolean pair = !one.equals(other) && (told.add(one + other) & told.add(other + one) || draw(40) == 0);
        int sort = draw(9);
        if (draw(30) > 0 && (sort < 6 && letters == 0 || sort < 3 && gifts == 0)) {
            return "missed 7";
        }
        switch (sort) {
            case 0:
            case 1:
            case 2:
                return "wish " + one + " " + NAMES[9 + draw(Math.max(1, gifts))] + " " + (1 + draw(9));
            case 3:
            case 4:
                return !pair ? "cold " + draw(101) : "near " + one + blank() + other;
            case 5:
                return !pair ? "missed " + draw(100) : "like " + one + " " + other + blank() + draw(11);
            case 6:
                String word = pick("takes", "warm");
                if (!told.add(word) && draw(20) > 0) {
                    return "cold 50";
                }
                return word + blank() + pick(sum(0, false), "max(1,min(30," + sum(0, false) + "))",
                        "5+grave*2-hand", "10-day+hand", "age+day", "wishes*3/2-4*need+hand");
            case 7:
                return "missed " + draw(draw(9) == 0 ? 200 : 100);
            default:
                return "cold " + draw(101);
        }
    }

    private static String sum(int depth, boolean question) {
        StringBuilder all = new StringBuilder(part(depth, question));
        while (draw(3) > 0) {
            all.append(loose()).append(pick(SIGNS)).append(loose()).append(part(depth, question));
        }
        return all.toString();
    }

    private static String part(int depth, boolean question) {
        boolean deep = depth < 4 || draw(3) == 0;
        switch (draw(deep ? 9 : 4)) {
            case 0:
                return "" + draw(draw(2) == 0 ? 10 : 10000);
            case 1:
            case 2:
            case 3:
            case 4:
                return question ? pick("number", "age", "need", "grave", "wishes", "day", "sheet", "done", "gift")
                        : pick("age", "need", "grave", "hand", "wishes", "day");
            case 5:
                return "(" + loose() + sum(depth + 1, question) + loose() + ")";
            case 6:
                return pick("min", "max") + loose() + "(" + sum(depth + 1, question) + ","
                        + sum(depth + 1, question) + ")";
            default:
                return question ? "wish" + blank() + part(depth + 1, true) : "" + draw(100);
        }
    }

    private static String test(int depth) {
        StringBuilder all = new StringBuilder(fact(depth));
        while (draw(3) == 0) {
            all.append(blank()).append(pick("or", "and")).append(blank()).append(fact(depth));
        }
        return all.toString();
    }

    private static String fact(int depth) {
        switch (draw(depth < 4 || draw(3) == 0 ? 7 : 4)) {
            case 0:
                return "all";
            case 4:
                return "not" + blank() + fact(depth + 1);
            case 5:
                return "[" + loose() + test(depth + 1) + loose() + "]";
            default:
                return sum(depth, true) + loose() + pick("<", ">", "=") + loose() + sum(depth, true);
        }
    }

    private static int askSomething() {
        String text = draw(2) == 0 ? pick("first", "last", "often") + blank() + test(0)
                : pick("total", "most", "least") + blank() + sum(0, true);
        if (draw(3) == 0) {
            text = spoil(text);
        }
        if (text.length() > 400) {
            return 0;
        }
        int calls = feed(text);
        String old = log;
        log = log + " ask \"" + text + "\"";
        due("ask()", mail.ask(), naive.ask());
        faults();
        log = old;
        return calls + 3;
    }

    private static int seeSomething() {
        StringBuilder all = new StringBuilder();
        int rows = draw(5) == 0 ? draw(18) : 1 + draw(2);
        int helper = draw(Math.max(1, naive.helpers()));
        for (int k = 0; k < rows; k++) {
            int letter = draw(30) == 0 ? draw(9) : draw(Math.max(1, naive.letters()));
            int time = draw(10) == 0 ? draw(65536) : (int) Math.max(0, naive.takes(letter, helper));
            all.append((char) letter).append((char) (time >> 8)).append((char) (time & 255));
        }
        if (draw(9) == 0) {
            all.append('x');
        }
        int calls = feed(all.toString());
        due("see()", mail.see(), naive.see());
        due("whose()", mail.whose(), naive.whose());
        due("watched(0)", mail.watched(0), naive.watched(0));
        due("watched(1)", mail.watched(1), naive.watched(1));
        return calls + 4;
    }

    private static int goOn() {
        int size = mail.image();
        due("image()", size, naive.image());
        StringBuilder all = new StringBuilder();
        for (int k = -1; k <= size; k++) {
            due("octet(" + k + ")", mail.octet(k), naive.octet(k));
        }
        for (int k = 0; k < size - 1; k++) {
            all.append((char) mail.octet(k));
        }
        for (int k = draw(4); k > 0; k--) {
            all.setCharAt(draw(all.length()), (char) (draw(20) == 0 ? draw(256) : draw(5)));
        }
        int c = draw(20) == 0 ? 88 : 89;
        for (int k = 0; k < all.length(); k++) {
            c = (3 * c + all.charAt(k)) % 251;
        }
        all.append((char) c);
        if (draw(20) == 0) {
            all.append(' ');
        }
        if (draw(8) == 0) {
            all = new StringBuilder(spoil(all.toString()));
        }
        int calls = feed(all.toString());
        due("on()", mail.on(), naive.on());
        return calls + 2 * size + 4;
    }

    private static int act() {
        int letter = draw(20) == 0 ? draw(20) - 6 : draw(Math.max(1, naive.letters()));
        int helper = draw(20) == 0 ? draw(20) - 6 : draw(Math.max(1, naive.helpers()));
        int gift = draw(20) == 0 ? draw(20) - 6 : draw(Math.max(1, naive.gifts()));
        int kind = draw(20) == 0 ? draw(20) - 6 : 1 + draw(4);
        int n = draw(9) == 0 ? draw(60) - 4 : 1 + draw(3);
        switch (draw(12)) {
            case 0:
            case 1:
            case 2:
                due("answer", mail.answer(letter, helper), naive.answer(letter, helper));
                break;
            case 3:
            case 4:
                due("sheet", mail.sheet(letter, kind), naive.sheet(letter, kind));
                break;
            case 5:
            case 6:
                due("give", mail.give(letter, gift), naive.give(letter, gift));
                break;
            case 7:
                due("evenings(" + n + ")", mail.evenings(n), naive.evenings(n));
                break;
            case 8:
                due("chance(" + n + ")", mail.chance(n), naive.chance(n));
                break;
            case 9:
                int seed = draw(5) == 0 ? -1 - draw(9) : draw(Integer.MAX_VALUE);
                due("seed", mail.seed(seed), naive.seed(seed));
                break;
            case 10:
                due("end", mail.end(letter), naive.end(letter));
                break;
            default:
                due("undo()", mail.undo(), naive.undo());
        }
        for (int what = 5; what < 12; what++) {
            due("has(" + what + ")", mail.has(what), naive.has(what));
        }
        return 8;
    }

    private static int lookAtAll() {
        int letter = draw(naive.letters() + 3) - 1;
        int helper = draw(naive.helpers() + 2) - 1;
        int gift = draw(naive.gifts() + 2) - 1;
        int what = draw(15) - 1;
        int k = draw(8) - 1;
        int n = draw(5) == 0 ? draw(36) - 2 : draw(4);
        due("has", mail.has(what), naive.has(what));
        due("letter", mail.letter(k, letter, k), naive.letter(k, letter, k));
        due("letter", mail.letter(0, letter, k), naive.letter(0, letter, k));
        due("letter", mail.letter(1, gift, k), naive.letter(1, gift, k));
        due("letter", mail.letter(2, helper, k), naive.letter(2, helper, k));
        due("mail", mail.mail(letter, k), naive.mail(letter, k));
        due("mail", mail.mail(letter, k + 2), naive.mail(letter, k + 2));
        due("gift", mail.gift(gift, 0), naive.gift(gift, 0));
        due("gift", mail.gift(gift, 10 + letter), naive.gift(gift, 10 + letter));
        due("helper", mail.helper(helper, k), naive.helper(helper, k));
        due("takes", mail.takes(letter, helper), naive.takes(letter, helper));
        due("warmth", mail.warmth(letter, helper), naive.warmth(letter, helper));
        due("can", mail.can(letter, helper), naive.can(letter, helper));
        due("warmest", mail.warmest(letter), naive.warmest(letter));
        due("warmest(-1)", mail.warmest(-1), naive.warmest(-1));
        due("warms", mail.warms(), naive.warms());
        if (naive.letters() < 7) {
            due("later(" + n + ")", mail.later(n), naive.later(n));
            due("finished()", mail.finished(), naive.finished());
        }
        due("sheets(" + letter + ")", mail.sheets(letter), naive.sheets(letter));
        due("shared(" + letter + ")", mail.shared(letter), naive.shared(letter));
        due("shared(-1)", mail.shared(-1), naive.shared(-1));
        due("tell", mail.tell(k), naive.tell(k));
        due("tell(1)", mail.tell(1), naive.tell(1));
        due("children(" + letter + ")", mail.children(letter), naive.children(letter));
        due("children(-1)", mail.children(-1), naive.children(-1));
        due("watched", mail.watched(k), naive.watched(k));
        due("status", mail.status(k), naive.status(k));
        return 27;
    }
}
