import java.util.ArrayList;
import java.util.Arrays;
import java.util.HashMap;
import java.util.LinkedHashSet;
import java.util.List;
import java.util.Map;
import java.util.Set;

/**
 * Fault 1 is "the first byte with which no such text goes on". The document's rules stand here as they are written, and
 * Earley's way of reading says which token can go on behind which tokens: all short texts are tried, beginning with
 * several beginnings, and the class must say the same.
 */
public final class GrammarTest {
    private static final String[] SUM_RULES = {
        "SUM: PRODUCT", "SUM: SUM + PRODUCT", "SUM: SUM - PRODUCT",
        "PRODUCT: PART", "PRODUCT: PRODUCT * PART", "PRODUCT: PRODUCT / PART",
        "PART: N", "PART: age", "PART: need", "PART: grave", "PART: wishes", "PART: day",
        "PART: ( SUM )", "PART: min ( SUM , SUM )", "PART: max ( SUM , SUM )"};
    private static final String[] QUESTION_RULES = {
        "ALL: first TEST", "ALL: last TEST", "ALL: often TEST", "ALL: total SUM", "ALL: most SUM", "ALL: least SUM",
        "TEST: BOTH", "TEST: TEST or BOTH", "BOTH: FACT", "BOTH: BOTH and FACT",
        "FACT: not FACT", "FACT: [ TEST ]", "FACT: all", "FACT: SUM < SUM", "FACT: SUM > SUM", "FACT: SUM = SUM",
        "PART: number", "PART: sheet", "PART: done", "PART: gift", "PART: wish PART"};
    private static final String[] HEAP_RULES = {
        "ALL:", "ALL: ALL STATEMENT ;",
        "STATEMENT: letter NAME age N need N grave N", "STATEMENT: gift NAME stock N", "STATEMENT: wish NAME NAME N",
        "STATEMENT: near NAME NAME", "STATEMENT: like NAME NAME N",
        "STATEMENT: helper NAME time N hand N bears N", "STATEMENT: takes SUM", "STATEMENT: warm SUM",
        "STATEMENT: missed N", "STATEMENT: cold N", "PART: hand"};
    private static final String[] TOKENS = ("letter age need grave gift stock wish near like helper time hand bears takes "
            + "warm missed cold wishes day number sheet done or and not all min max first last often total most least "
            + "a b p x new 1 12 ( ) [ ] < > = + - * / , ; . % A").split(" ");
    // One of each sort is enough to go on with; all of TOKENS are tried behind it.
    private static final String[] QUESTION_STEPS =
            "first total or and not all min wish age 1 ( ) [ ] < + * ,".split(" ");
    private static final String[] HEAP_STEPS = ("letter gift wish near like helper takes missed age need grave stock time "
            + "hand bears min a b p new 1 ( ) + * , ;").split(" ");
    private static final String PRELUDE =
            "letter a age 1 need 1 grave 1 ; letter b age 1 need 1 grave 1 ; gift p stock 1 ;";
    private static final int TRIES_MOST = 20;
    private static final Check check = new Check("GrammarTest");

    private final List<String[]> rules = new ArrayList<>();
    private final Map<String, List<Integer>> byHead = new HashMap<>();
    private final boolean question;
    private final List<String> tokens = new ArrayList<>();
    private final List<Set<List<Integer>>> chart = new ArrayList<>();
    private DearLetters mail;
    private int tries = TRIES_MOST;

    private GrammarTest(boolean question) {
        this.question = question;
        addRules(SUM_RULES);
        addRules(question ? QUESTION_RULES : HEAP_RULES);
        Set<List<Integer>> first = new LinkedHashSet<>();
        predict(first, "ALL", 0);
        chart.add(closed(first, 0));
    }

    public static void main(String[] args) {
        questions("", 5);
        for (String beginning : new String[] {"last not", "often age", "first [ age + 1", "first [ all or", "last ( age )",
            "total min ( wish 1", "most wish ( number", "least max ( 1 , 1 )", "often 1 < ( age", "first not [ not all",
            "last all and 1 * wish"}) {
            questions(beginning, 4);
        }
        for (String beginning : new String[] {"", "letter new", "letter new age 1 need", "letter new age 1 need 1 grave 1",
            "gift new", "gift new stock", "wish a", "wish a p", "near a", "near a b", "like a b", "like b a 1",
            "helper new time", "helper new time 1 hand 1", "helper new time 1 hand 1 bears", "takes 1 + ( hand",
            "warm min ( 1 , age )", "missed", "cold 1"}) {
            heaps((PRELUDE + " " + beginning).trim(), 4);
        }
        check.finish();
    }

    private static void questions(String beginning, int depth) {
        GrammarTest test = new GrammarTest(true);
        test.begin(beginning);
        test.tryAll(depth, QUESTION_STEPS);
    }

    private static void heaps(String beginning, int depth) {
        GrammarTest test = new GrammarTest(false);
        test.begin(beginning);
        test.tryAll(depth, HEAP_STEPS);
    }

    private void addRules(String[] texts) {
        for (String text : texts) {
            String[] rule = text.replace(":", "").split(" ");
            byHead.computeIfAbsent(rule[0], head -> new ArrayList<>()).add(rules.size());
            rules.add(rule);
        }
    }

    private void begin(String beginning) {
        for (String token : beginning.isEmpty() ? new String[0] : beginning.split(" ")) {
            check.due("\"" + beginning + "\" goes on with " + token, push(token), true);
        }
    }

    private void tryAll(int depth, String[] steps) {
        if (depth == 0) {
            return;
        }
        for (String token : TOKENS) {
            boolean goesOn = push(token);
            boolean noFault = compare(goesOn, " ") & compare(goesOn, "");
            if (goesOn && noFault && Arrays.asList(steps).contains(token)) {
                tryAll(depth - 1, steps);
            }
            pop();
        }
    }

    /** Reads the text with the class; whether there is no fault but that it may end too soon. */
    private boolean compare(boolean goesOn, String between) {
        StringBuilder text = new StringBuilder();
        int last = 0;
        for (String token : tokens) {
            boolean needsBlank = text.length() > 0 && isWord(token.charAt(0)) && isWord(text.charAt(text.length() - 1));
            text.append(needsBlank ? " " : text.length() > 0 ? between : "");
            last = text.length();
            text.append(token);
        }
        read(text.toString());
        int what = mail.fault(0);
        int place = mail.fault(1);
        boolean endsTooSoon = what == 1 && place == text.length();
        String told = "\"" + text + "\" fault " + what + " at " + place;
        if (what > 1) {
            // What can't be by its meaning stands where the grammar lets it stand.
            check.due(told + ", where it is asked", goesOn && place == last, true);
            return false;
        }
        check.due(told + ": whole", what == 0, goesOn && isWhole());
        check.due(told + ": goes on", what == 0 || endsTooSoon, goesOn);
        check.due(told + ": at the last token", what == 0 || endsTooSoon || place == last, true);
        return what == 0 || endsTooSoon;
    }

    private void read(String text) {
        if (tries == TRIES_MOST) {
            mail = new DearLetters();
            tries = 0;
        }
        tries++;
        if (question) {
            Check.ask(mail, text);
        } else {
            Check.heap(mail, text);
        }
    }

    private static boolean isWord(char sign) {
        return sign >= 'a' && sign <= 'z' || sign >= '0' && sign <= '9';
    }

    /** What a token is in the rules: itself, N, or NAME; no rule has any other word or sign. */
    private static String sortOf(String token) {
        if (Character.isDigit(token.charAt(0))) {
            return "N";
        }
        boolean name = token.matches("[a-z]+") && !Arrays.asList(Texts.OWN_WORDS).contains(token);
        return name ? "NAME" : token;
    }

    private boolean push(String token) {
        String sort = sortOf(token);
        Set<List<Integer>> next = new LinkedHashSet<>();
        for (List<Integer> item : chart.get(tokens.size())) {
            String asked = askedBy(item);
            if (asked != null && (asked.equals(token) || asked.equals(sort))) {
                next.add(stepped(item));
            }
        }
        tokens.add(token);
        chart.add(closed(next, tokens.size()));
        return !next.isEmpty();
    }

    private void pop() {
        chart.remove(tokens.size());
        tokens.remove(tokens.size() - 1);
    }

    private boolean isWhole() {
        for (List<Integer> item : chart.get(tokens.size())) {
            if (askedBy(item) == null && item.get(2) == 0 && rules.get(item.get(0))[0].equals("ALL")) {
                return true;
            }
        }
        return false;
    }

    /** An item is a rule, how much of it has been read, and the place where it began. */
    private String askedBy(List<Integer> item) {
        String[] rule = rules.get(item.get(0));
        return item.get(1) + 1 < rule.length ? rule[item.get(1) + 1] : null;
    }

    private static List<Integer> stepped(List<Integer> item) {
        return Arrays.asList(item.get(0), item.get(1) + 1, item.get(2));
    }

    private void predict(Set<List<Integer>> items, String head, int place) {
        for (int rule : byHead.getOrDefault(head, new ArrayList<>())) {
            items.add(Arrays.asList(rule, 0, place));
        }
    }

    /** All items that follow from these at this place, until no more do. */
    private Set<List<Integer>> closed(Set<List<Integer>> items, int place) {
        int before = -1;
        while (items.size() != before) {
            before = items.size();
            for (List<Integer> item : new ArrayList<>(items)) {
                String asked = askedBy(item);
                if (asked != null) {
                    predict(items, asked, place);
                    continue;
                }
                String head = rules.get(item.get(0))[0];
                for (List<Integer> older : new ArrayList<>(item.get(2) == place ? items : chart.get(item.get(2)))) {
                    if (head.equals(askedBy(older))) {
                        items.add(stepped(older));
                    }
                }
            }
        }
        return items;
    }
}
