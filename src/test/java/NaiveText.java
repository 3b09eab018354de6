import java.util.ArrayList;
import java.util.Arrays;
import java.util.HashSet;
import java.util.List;
import java.util.Set;

/** The small language once more, written for plainness alone: tokens first, then a tree, faults by exceptions. */
final class NaiveText {
    static final Set<String> OWN = new HashSet<>(Arrays.asList("letter", "age", "need", "grave", "gift", "stock",
            "wish", "near", "like", "helper", "time", "hand", "bears", "takes", "warm", "missed", "cold", "wishes",
            "day", "number", "sheet", "done", "or", "and", "not", "all", "min", "max"));
    static final Set<String> HEAP_PARTS =
            new HashSet<>(Arrays.asList("age", "need", "grave", "hand", "wishes", "day"));
    static final Set<String> QUESTION_PARTS = new HashSet<>(
            Arrays.asList("number", "age", "need", "grave", "wishes", "day", "sheet", "done", "gift"));

    static final class Fault extends Exception {
        final int what;
        final int place;

        Fault(int what, int place) {
            this.what = what;
            this.place = place;
        }
    }

    interface Values {
        long of(String word);

        long wish(long gift);
    }

    interface Tree {
        long in(Values values);
    }

    private static final class Token {
        final char sort;
        final String text;
        final int at;
        final boolean glued;

        Token(char sort, String text, int at, boolean glued) {
            this.sort = sort;
            this.text = text;
            this.at = at;
            this.glued = glued;
        }
    }

    final List<String> letters = new ArrayList<>();
    final List<String> gifts = new ArrayList<>();
    final List<String> helpers = new ArrayList<>();
    final List<int[]> letterNumbers = new ArrayList<>();
    final List<Integer> stocks = new ArrayList<>();
    final List<int[]> helperNumbers = new ArrayList<>();
    final List<int[]> nears = new ArrayList<>();
    final List<int[]> likes = new ArrayList<>();
    final int[][] wishes = new int[8][4];
    Tree takes;
    Tree warm;
    int missed = 3;
    int cold;
    int statements;
    String form;
    Tree asked;

    private final List<Token> tokens = new ArrayList<>();
    private int next;
    private int open;
    private boolean question;

    private NaiveText(String text) {
        int at = 0;
        while (at < text.length()) {
            char sign = text.charAt(at);
            char sort = sortOf(sign);
            int end = at + 1;
            while ((sort == 'w' || sort == 'n') && end < text.length() && sortOf(text.charAt(end)) == sort) {
                end++;
            }
            boolean glued = at > 0 && sort != 's' && "wn".indexOf(sortOf(text.charAt(at - 1))) >= 0;
            if (sort != ' ') {
                tokens.add(new Token(sort, text.substring(at, end), at, glued));
            }
            at = end;
        }
        tokens.add(new Token('e', "", text.length(), false));
    }

    private static char sortOf(char sign) {
        if (sign >= 'a' && sign <= 'z') {
            return 'w';
        }
        if (sign >= '0' && sign <= '9') {
            return 'n';
        }
        return sign == ' ' || sign == '\n' ? ' ' : 's';
    }

    static NaiveText heap(String text) throws Fault {
        NaiveText heap = new NaiveText(text);
        while (heap.now().sort != 'e') {
            if (heap.statements == 80) {
                throw new Fault(5, heap.now().at);
            }
            heap.statement();
            heap.need(";");
            heap.statements++;
        }
        return heap;
    }

    static NaiveText question(String text) throws Fault {
        NaiveText question = new NaiveText(text);
        question.question = true;
        Token token = question.now();
        question.form = token.text;
        if (Arrays.asList("first", "last", "often").contains(token.text)) {
            question.next++;
            question.asked = question.test();
        } else if (Arrays.asList("total", "most", "least").contains(token.text)) {
            question.next++;
            question.asked = question.sum();
        } else {
            throw new Fault(1, token.at);
        }
        if (question.now().sort != 'e') {
            throw new Fault(1, question.now().at);
        }
        return question;
    }

    private Token now() {
        return tokens.get(next);
    }

    private boolean sees(String text) {
        return now().text.equals(text) && !now().glued;
    }

    private boolean takesIf(String text) {
        if (!sees(text)) {
            return false;
        }
        next++;
        return true;
    }

    private void need(String text) throws Fault {
        if (!takesIf(text)) {
            throw new Fault(1, now().at);
        }
    }

    private String name() throws Fault {
        Token token = now();
        if (token.sort != 'w' || OWN.contains(token.text)) {
            throw new Fault(1, token.at);
        }
        if (token.text.length() > 6) {
            throw new Fault(1, token.at + 6);
        }
        next++;
        return token.text;
    }

    private int number() throws Fault {
        Token token = now();
        if (token.sort != 'n' || token.glued) {
            throw new Fault(1, token.at);
        }
        if (token.text.length() > 4) {
            throw new Fault(1, token.at + 4);
        }
        next++;
        return Integer.parseInt(token.text);
    }

    private int number(int least, int most) throws Fault {
        int at = now().at;
        int number = number();
        if (number < least || number > most) {
            throw new Fault(2, at);
        }
        return number;
    }

    private String newName() throws Fault {
        int at = now().at;
        String name = name();
        if (letters.contains(name) || gifts.contains(name) || helpers.contains(name)) {
            throw new Fault(3, at);
        }
        return name;
    }

    private int known(List<String> names) throws Fault {
        int at = now().at;
        String name = name();
        if (!names.contains(name)) {
            throw new Fault(3, at);
        }
        return names.indexOf(name);
    }

    private int[] pair(List<int[]> told) throws Fault {
        int one = known(letters);
        int at = now().at;
        int other = known(letters);
        boolean again = one == other;
        for (int[] each : told) {
            again |= each[0] == one && each[1] == other || each[0] == other && each[1] == one;
        }
        if (again) {
            throw new Fault(3, at);
        }
        return new int[] {one, other, 0};
    }

    private void limit(boolean full, Token token) throws Fault {
        if (full) {
            throw new Fault(5, token.at);
        }
        next++;
    }

    private void statement() throws Fault {
        Token token = now();
        switch (token.text) {
            case "letter": {
                limit(letters.size() == 8, token);
                String name = newName();
                need("age");
                int age = number(0, 20);
                need("need");
                int need = number(0, 9);
                need("grave");
                letterNumbers.add(new int[] {age, need, number(0, 10)});
                letters.add(name);
                break;
            }
            case "gift": {
                limit(gifts.size() == 4, token);
                String name = newName();
                need("stock");
                stocks.add(number(0, 3));
                gifts.add(name);
                break;
            }
            case "helper": {
                limit(helpers.size() == 3, token);
                String name = newName();
                need("time");
                int time = number(1, 240);
                need("hand");
                int hand = number(0, 9);
                need("bears");
                helperNumbers.add(new int[] {time, hand, number(0, 10)});
                helpers.add(name);
                break;
            }
            case "wish": {
                next++;
                int letter = known(letters);
                int gift = known(gifts);
                wishes[letter][gift] = number(1, 9);
                break;
            }
            case "near":
                limit(nears.size() == 20, token);
                nears.add(pair(nears));
                break;
            case "like": {
                limit(likes.size() == 10, token);
                int[] pair = pair(likes);
                pair[2] = number(0, 10);
                likes.add(pair);
                break;
            }
            case "takes":
                limit(takes != null, token);
                takes = sum();
                break;
            case "warm":
                limit(warm != null, token);
                warm = sum();
                break;
            case "missed":
                next++;
                missed = number(0, 99);
                break;
            case "cold":
                next++;
                cold = number(0, 100);
                break;
            default:
                throw new Fault(1, token.at);
        }
    }

    private static long kept(long value) {
        return value > 1000000 ? 1000000 : value < -1000000 ? -1000000 : value;
    }

    private static long over(long left, long right) {
        if (right == 0) {
            return 0;
        }
        boolean whole = left % right == 0;
        return whole || left < 0 == right < 0 ? left / right : left / right - 1;
    }

    private Tree sum() throws Fault {
        Tree tree = product();
        while (sees("+") || sees("-")) {
            boolean plus = now().text.equals("+");
            next++;
            Tree left = tree;
            Tree right = product();
            tree = plus ? v -> kept(left.in(v) + right.in(v)) : v -> kept(left.in(v) - right.in(v));
        }
        return tree;
    }

    private Tree product() throws Fault {
        Tree tree = part();
        while (sees("*") || sees("/")) {
            boolean times = now().text.equals("*");
            next++;
            Tree left = tree;
            Tree right = part();
            tree = times ? v -> kept(left.in(v) * right.in(v)) : v -> over(left.in(v), right.in(v));
        }
        return tree;
    }

    private void opens() throws Fault {
        if (open == 6) {
            throw new Fault(4, now().at);
        }
        open++;
        next++;
    }

    private Tree part() throws Fault {
        Token token = now();
        if (token.sort == 'n') {
            long number = number();
            return v -> number;
        }
        if (sees("(")) {
            opens();
            Tree tree = sum();
            need(")");
            open--;
            return tree;
        }
        if (token.text.equals("min") || token.text.equals("max")) {
            next++;
            if (!sees("(")) {
                throw new Fault(1, now().at);
            }
            opens();
            Tree one = sum();
            need(",");
            Tree other = sum();
            need(")");
            open--;
            return token.text.equals("min")
                    ? v -> Math.min(one.in(v), other.in(v)) : v -> Math.max(one.in(v), other.in(v));
        }
        if (question && token.text.equals("wish")) {
            opens();
            Tree gift = part();
            open--;
            return v -> v.wish(gift.in(v));
        }
        if (!(question ? QUESTION_PARTS : HEAP_PARTS).contains(token.text)) {
            throw new Fault(1, token.at);
        }
        next++;
        return v -> v.of(token.text);
    }

    private Tree test() throws Fault {
        Tree tree = both();
        while (takesIf("or")) {
            Tree left = tree;
            Tree right = both();
            tree = v -> left.in(v) + right.in(v) > 0 ? 1 : 0;
        }
        return tree;
    }

    private Tree both() throws Fault {
        Tree tree = fact();
        while (takesIf("and")) {
            Tree left = tree;
            Tree right = fact();
            tree = v -> left.in(v) * right.in(v);
        }
        return tree;
    }

    private Tree fact() throws Fault {
        if (sees("not")) {
            opens();
            Tree tree = fact();
            open--;
            return v -> 1 - tree.in(v);
        }
        if (sees("[")) {
            opens();
            Tree tree = test();
            need("]");
            open--;
            return tree;
        }
        if (takesIf("all")) {
            return v -> 1;
        }
        Tree left = sum();
        Token token = now();
        if (!sees("<") && !sees(">") && !sees("=")) {
            throw new Fault(1, token.at);
        }
        next++;
        Tree right = sum();
        switch (token.text) {
            case "<":
                return v -> left.in(v) < right.in(v) ? 1 : 0;
            case ">":
                return v -> left.in(v) > right.in(v) ? 1 : 0;
            default:
                return v -> left.in(v) == right.in(v) ? 1 : 0;
        }
    }
}
