import java.util.List;

/** Questions, Term IV and promises 5 and 32, sentence by sentence. */
public final class QuestionLimitsTest {
    private static final int TEXT = 1;
    private static final int OPEN = 4;
    private static final int NONE = Texts.NONE;
    private static final long NOTHING = DearLetters.NOTHING;
    private static final List<String> PARTS = List.of("number", "age", "need", "grave", "wishes", "day", "sheet", "done",
            "gift");
    private static final String HEAP = "letter a age 3 need 4 grave 0;letter b age 5 need 6 grave 1;"
            + "letter c age 7 need 8 grave 9;gift p stock 3;gift q stock 3;wish a p 1;wish b p 9;wish a q 4;wish c q 2;"
            + "helper x time 240 hand 7 bears 9;helper y time 240 hand 2 bears 9;";
    private static final Check check = new Check("QuestionLimitsTest");

    public static void main(String[] args) {
        withoutLetters();
        firstAndLast();
        often();
        totals();
        mostAndLeast();
        partsOfLetters();
        wishesByNumber();
        signs();
        orAndNot();
        openBrackets();
        openNots();
        openWishes();
        openTogether();
        unknownWords();
        ownWordsAndNames();
        behindTheQuestion();
        endsTooSoon();
        numbers();
        blanks();
        wholeTape();
        longQuestions();
        faults();
        check.finish();
    }

    private static DearLetters told() {
        return Texts.told(check, HEAP);
    }

    private static void asks(DearLetters mail, String text, long want) {
        check.due("ask \"" + text + "\"", Check.ask(mail, text), want);
        check.due("ask \"" + text + "\" fault(0)", mail.fault(0), 0);
        check.due("ask \"" + text + "\" fault(1)", mail.fault(1), NONE);
    }

    private static void asks(String text, long want) {
        asks(told(), text, want);
    }

    private static void bad(String text, int fault, int place) {
        for (DearLetters mail : new DearLetters[] {told(), new DearLetters()}) {
            check.due("ask \"" + text + "\"", Check.ask(mail, text), NOTHING);
            check.due("ask \"" + text + "\" fault(0)", mail.fault(0), fault);
            check.due("ask \"" + text + "\" fault(1)", mail.fault(1), place);
            check.due("ask \"" + text + "\" is refused nowhere", mail.status(1), 0);
            check.due("ask \"" + text + "\" takes the tape", mail.feed(0, 0, 0, 0, 0), 20);
        }
    }

    private static void withoutLetters() {
        for (DearLetters mail : new DearLetters[] {new DearLetters(), Texts.told(check, "gift p stock 3;")}) {
            asks(mail, "first all", NONE);
            asks(mail, "last all", NONE);
            asks(mail, "often all", 0);
            asks(mail, "total 9999", 0);
            asks(mail, "most 9999", 0);
            asks(mail, "least 9999", 0);
            asks(mail, "most 0-9999", 0);
            asks(mail, "least 0-9999", 0);
        }
    }

    private static void firstAndLast() {
        for (int age = 2; age <= 8; age++) {
            asks("first age>" + age, age < 3 ? 0 : age < 5 ? 1 : age < 7 ? 2 : NONE);
            asks("last age<" + age, age <= 3 ? NONE : age <= 5 ? 0 : age <= 7 ? 1 : 2);
        }
        asks("first all", 0);
        asks("last all", 2);
        asks("first not all", NONE);
        asks("last not all", NONE);
        asks("first age=5", 1);
        asks("last age=5", 1);
        DearLetters full = Texts.told(check, Texts.letters(8));
        asks(full, "first number=7", 7);
        asks(full, "last all", 7);
    }

    private static void often() {
        for (int age = 2; age <= 8; age++) {
            asks("often age<" + age, age <= 3 ? 0 : age <= 5 ? 1 : age <= 7 ? 2 : 3);
        }
        DearLetters full = Texts.told(check, Texts.letters(8));
        asks(full, "often all", 8);
        asks(full, "often not all", 0);
    }

    private static void totals() {
        asks("total age", 15);
        asks("total 0", 0);
        asks("total 0-age", -15);
        asks("total age-5", 0);
        // Each letter's sum is kept within a million, all together are not.
        DearLetters full = Texts.told(check, Texts.letters(8));
        asks(full, "total 1000*1000", 8000000);
        asks(full, "total 0-1000*1000", -8000000);
        asks(full, "total 1000*1000+1", 8000000);
    }

    private static void mostAndLeast() {
        asks("most age", 7);
        asks("least age", 3);
        asks("most 0-age", -3);
        asks("least 0-age", -7);
        asks("most 1000*1000+age", 1000000);
        asks("least 0-1000*1000-age", -1000000);
        asks("most age-age", 0);
        asks("least (age-5)*(age-5)", 0);
        DearLetters one = Texts.told(check, Texts.letters(1));
        asks(one, "most 0-7", -7);
        asks(one, "least 7", 7);
    }

    private static void partsOfLetters() {
        DearLetters mail = told();
        asks(mail, "total number", 3);
        asks(mail, "least number", 0);
        asks(mail, "most wishes", 9);
        asks(mail, "least wishes", 2);
        for (String part : new String[] {"sheet", "done", "gift", "day"}) {
            asks(mail, "most " + part, 0);
        }
        mail.sheet(2, 4);
        mail.sheet(0, 1);
        mail.answer(1, 1);
        mail.answer(0, 0);
        mail.give(2, 1);
        mail.give(1, 0);
        int[][] due = {{1, 1, 0}, {0, 2, 1}, {4, 0, 2}};
        for (int letter = 0; letter < 3; letter++) {
            asks(mail, "total sheet*(1-min(1,max(number-" + letter + "," + letter + "-number)))", due[letter][0]);
            asks(mail, "total done*(1-min(1,max(number-" + letter + "," + letter + "-number)))", due[letter][1]);
            asks(mail, "total gift*(1-min(1,max(number-" + letter + "," + letter + "-number)))", due[letter][2]);
        }
        mail.evenings(50);
        asks(mail, "most day", 50);
        asks(mail, "least day", 50);
    }

    private static void wishesByNumber() {
        asks("total wish 0", 10);
        asks("total wish 1", 6);
        asks("total wish 2", 0);
        asks("total wish 3", 0);
        asks("total wish 4", 0);
        asks("total wish 9999", 0);
        asks("total wish (0-1)", 0);
        asks("total wish (1000*1000)", 0);
        asks("total wish (0-1000*1000)", 0);
        asks("total wish number", 1);
        asks("total wish wish 0", 4);
        // Of a wish by its PART alone: what is behind that is outside of it.
        asks("total wish 0+1", 13);
        asks("total wish 0*2", 20);
        asks("total wish (0+1)", 6);
        asks("total wish min(1,2)", 6);
        DearLetters full = Texts.told(check, Texts.letters(1) + Texts.gifts(4, 0) + "wish a s 7;");
        asks(full, "total wish 3", 7);
        asks(full, "total wish 4", 0);
        // What an earlier heap told of a gift that there is no more.
        Check.heap(full, Texts.letters(1) + Texts.gifts(1, 0));
        asks(full, "total wish 3", 0);
        asks(full, "total wishes", 0);
    }

    private static void signs() {
        asks("often age<5", 1);
        asks("often age=5", 1);
        asks("often age>5", 1);
        asks("often 4<5", 3);
        asks("often 5<5", 0);
        asks("often 6<5", 0);
        asks("often 4=5", 0);
        asks("often 5=5", 3);
        asks("often 4>5", 0);
        asks("often 5>5", 0);
        asks("often 6>5", 3);
        asks("often 0-1<0", 3);
        asks("often 0-1000*1000<1000*1000", 3);
        asks("often 1000*1000=1000*1000+1", 3);
        bad("often 5", TEXT, 7);
        bad("often 5<", TEXT, 8);
        bad("often <5", TEXT, 6);
        bad("often 5<=5", TEXT, 8);
        bad("often 5=5=5", TEXT, 9);
        bad("often (5=5)", TEXT, 8);
        bad("often 5!5", TEXT, 7);
        bad("often [5]", TEXT, 8);
    }

    private static void orAndNot() {
        String[] facts = {"not all", "all"};
        for (int k = 0; k < 8; k++) {
            boolean a = (k & 1) != 0;
            boolean b = (k & 2) != 0;
            boolean c = (k & 4) != 0;
            String one = facts[k & 1];
            String two = facts[(k >> 1) & 1];
            String three = facts[(k >> 2) & 1];
            truth(one + " or " + two + " and " + three, a || b && c);
            truth(one + " and " + two + " or " + three, a && b || c);
            truth("[" + one + " or " + two + "] and " + three, (a || b) && c);
            truth(one + " and [" + two + " or " + three + "]", a && (b || c));
            truth("not " + one + " and " + two, !a && b);
            truth("not [" + one + " and " + two + "]", !(a && b));
            truth("not not " + one + " or " + two, a || b);
            truth(one + " or " + two + " or " + three, a || b || c);
            truth(one + " and " + two + " and " + three, a && b && c);
        }
        asks("often not age=5 and all", 2);
        asks("often not age=5 or all", 3);
        asks("often not [age=5 or age=3]", 1);
    }

    private static void truth(String test, boolean holds) {
        asks("often " + test, holds ? 3 : 0);
        asks("first " + test, holds ? 0 : NONE);
        asks("last " + test, holds ? 2 : NONE);
    }

    private static void openBrackets() {
        for (int n = 1; n <= 6; n++) {
            asks("total " + "(".repeat(n) + "1" + ")".repeat(n), 3);
            asks("often " + "[".repeat(n) + "all" + "]".repeat(n), 3);
            asks("total " + "min(2,".repeat(n) + "1" + ")".repeat(n), 3);
            asks("often " + "(".repeat(n) + "1" + ")".repeat(n) + "=" + "(".repeat(n) + "1" + ")".repeat(n), 3);
        }
        bad("total (((((((1)))))))", OPEN, 12);
        bad("often [[[[[[[all]]]]]]]", OPEN, 12);
        bad("total " + "min(2,".repeat(7), OPEN, 6 + 36 + 3);
        bad("often 1=(((((((1", OPEN, 14);
        asks("often [[[[[[all]]]]]] and [[[[[[all]]]]]] or [[[[[[all]]]]]]", 3);
        asks("total ((((((1))))))+((((((1))))))", 6);
        bad("often [[[[[[all]]]]]] and [[[[[[[all", OPEN, 32);
    }

    private static void openNots() {
        for (int n = 1; n <= 6; n++) {
            asks("often " + "not ".repeat(n) + "all", n % 2 == 0 ? 3 : 0);
            asks("often " + "not ".repeat(n) + "1=1", n % 2 == 0 ? 3 : 0);
        }
        bad("often " + "not ".repeat(7) + "all", OPEN, 30);
        bad("often " + "not ".repeat(7), OPEN, 30);
        // A not is open until its FACT ends: behind it six more may be.
        asks("often not not not not not not all or not not not not not not all", 3);
        asks("often not not not not not not all and not not not not not not all", 3);
        bad("often all or " + "not ".repeat(7) + "all", OPEN, 37);
        // The FACT of a not is the sum on both sides of the sign.
        asks("often not not not not not (1)=(1)", 0);
        bad("often not not not not not not 1=(1)", OPEN, 32);
        bad("often not not not not not not (1)=1", OPEN, 30);
    }

    private static void openWishes() {
        for (int n = 1; n <= 6; n++) {
            asks("total " + "wish ".repeat(n) + "5", chain(5, n, false));
            asks("total " + "wish ".repeat(n) + "0", chain(0, n, false));
        }
        bad("total " + "wish ".repeat(7) + "5", OPEN, 36);
        bad("total " + "wish ".repeat(7), OPEN, 36);
        // A wish is open until its PART ends.
        asks("total wish wish wish wish wish wish 0*wish wish wish wish wish wish 0", chain(0, 6, true));
        asks("total " + "wish 5+".repeat(9) + "wish 5", 0);
        asks("total wish (wish (wish (0)))", chain(0, 3, false));
        bad("total wish (wish (wish (wish 0", OPEN, 24);
        bad("total wish wish wish wish wish wish (1)", OPEN, 36);
        asks("total wish wish wish wish wish (1)", chain(1, 5, false));
        bad("total (((((wish (1", OPEN, 16);
        asks("total (((((wish 1)))))", 6);
        asks("total wish 1+(((((wish 1)))))", 12);
    }

    private static final int[][] WISHES = {{1, 4}, {9, 0}, {0, 2}};

    /** The wish of a wish, and so on n times, from this number on, or that times itself, of all letters together. */
    private static long chain(int from, int n, boolean squared) {
        long all = 0;
        for (int[] letter : WISHES) {
            int value = from;
            for (int k = 0; k < n; k++) {
                value = value >= 0 && value < 2 ? letter[value] : 0;
            }
            all += squared ? (long) value * value : value;
        }
        return all;
    }

    private static void openTogether() {
        asks("often [not [not wish (1)=6]]", 0);
        asks("often [not [not (wish 1)=4]]", 1);
        bad("often [not [not (wish (1))=4]]", OPEN, 22);
        bad("often [not [not wish (wish 1)=4]]", OPEN, 22);
        bad("often [not [not wish ((1))=4]]", OPEN, 22);
        bad("often [[[[[[not all", OPEN, 12);
        bad("often [[[[[[(1)=1", OPEN, 12);
        bad("often [[[[[[wish 1=1", OPEN, 12);
        bad("often [[[[[[min(1,1)=1", OPEN, 15);
        bad("often not not not not not not [all]", OPEN, 30);
        bad("often not not not not not not wish 1=1", OPEN, 30);
        bad("total ((((((wish 1))))))", OPEN, 12);
        asks("often [[[[[[all or 1=1 and wishes>number]]]]]]", 3);
    }

    private static void unknownWords() {
        for (String word : new String[] {"a", "p", "x", "ages", "ag", "abcdefg", "abcdefghijk", "hand", "time", "stock",
            "or", "and", "letter", "takes", "need", "cold"}) {
            bad(word + " all", TEXT, 0);
            if (!PARTS.contains(word)) {
                bad("total " + word, TEXT, 6);
                bad("total 1+" + word, TEXT, 8);
                bad("first " + word + "=1", TEXT, 6);
                bad("first 1=" + word, TEXT, 8);
                bad("total wish " + word, TEXT, 11);
            }
        }
        bad("total all", TEXT, 6);
        bad("total not 1", TEXT, 6);
        bad("total [1]", TEXT, 6);
        bad("first 1=all", TEXT, 8);
        bad("first 1=not 1", TEXT, 8);
        bad("First all", TEXT, 0);
        bad("firsts all", TEXT, 0);
        bad("firs all", TEXT, 0);
        bad("5", TEXT, 0);
        bad("(1)", TEXT, 0);
        bad("?", TEXT, 0);
    }

    private static void ownWordsAndNames() {
        for (String word : Texts.OWN_WORDS) {
            boolean part = PARTS.contains(word) || word.equals("min") || word.equals("max") || word.equals("wish");
            if (!part) {
                bad("total " + word, TEXT, 6);
            } else if (PARTS.contains(word)) {
                check.due("total " + word, Check.ask(told(), "total " + word) != NOTHING, true);
            } else {
                bad("total " + word, TEXT, 6 + word.length());
            }
        }
        for (String word : Texts.ASKING_WORDS) {
            boolean test = word.equals("first") || word.equals("last") || word.equals("often");
            check.due(word, Check.ask(told(), word + (test ? " all" : " 1")) != NOTHING, true);
            bad(word + (test ? " 1" : " all"), TEXT, test ? word.length() + 2 : word.length() + 1);
        }
    }

    private static void behindTheQuestion() {
        for (String more : new String[] {"1", "all", "x", ";", ")", "]", "=", "?", "first all", "total 1", ",", "abcdefg"}) {
            bad("first all " + more, TEXT, 10);
            bad("first all\n" + more, TEXT, 10);
            bad("total 1 " + (more.equals("=") ? "<" : more), TEXT, 8);
        }
        bad("total 1;", TEXT, 7);
        bad("first all;", TEXT, 9);
        bad("total 1=1", TEXT, 7);
        bad("total 1 or 1", TEXT, 8);
        bad("first all+1", TEXT, 9);
        bad("first [all]all", TEXT, 11);
        bad("total (1)(1)", TEXT, 9);
        asks("total 1 \n ", 3);
        asks("first all ", 0);
    }

    private static void endsTooSoon() {
        for (String text : new String[] {"", " ", "\n\n", "first", "first ", "total", "total 1+", "total 1*", "total (", "total (1",
            "total min", "total min(", "total min(1", "total min(1,", "total min(1,1", "total wish", "often not", "often [",
            "often [all", "often 1", "often 1=", "often all or", "often all and ", "often 1=1 and not"}) {
            bad(text, TEXT, text.length());
        }
    }

    private static void numbers() {
        asks("total 9", 27);
        asks("total 9999", 29997);
        asks("total 0009", 27);
        bad("total 10000", TEXT, 10);
        bad("total 00001", TEXT, 10);
        bad("total 1234567", TEXT, 10);
        bad("total wish 12345", TEXT, 15);
        bad("often 1=12345", TEXT, 12);
        bad("total -1", TEXT, 6);
        bad("total 1.5", TEXT, 7);
    }

    private static void blanks() {
        asks("total(1)", 3);
        asks("often[all]", 3);
        asks("often not[all]or[all]and[all]", 3);
        asks("\n total \n ( 1 + 2 ) \n * 3 ", 27);
        asks("often age=3 or(age)=5", 2);
        bad("total1", TEXT, 5);
        bad("total age1", TEXT, 9);
        bad("total 1age", TEXT, 7);
        bad("total wish1", TEXT, 10);
        bad("totalage", TEXT, 0);
        bad("often notall", TEXT, 6);
        bad("often age=3or age=5", TEXT, 11);
        bad("often age=3 or5=5", TEXT, 14);
        bad("often not5=5", TEXT, 9);
        bad("often all and1=1", TEXT, 13);
        for (int other : new int[] {0, 9, 11, 12, 13, 160, 255}) {
            bad("total" + (char) other + "1", TEXT, 5);
            bad("total 1" + (char) other, TEXT, 7);
            bad((char) other + "total 1", TEXT, 0);
        }
    }

    private static void wholeTape() {
        StringBuilder sum = new StringBuilder("total 1");
        while (sum.length() < 1599) {
            sum.append("+1");
        }
        asks(sum.toString() + (sum.length() == 1599 ? " " : ""), 3L * (sum.length() - 5) / 2);
        StringBuilder test = new StringBuilder("often 1=1");
        while (test.length() + 8 <= 1600) {
            test.append(" and 1=1");
        }
        asks(test.toString(), 3);
        String all = "often all" + " ".repeat(1588);
        asks(all + "   ", 3);
        bad(all + " ? ", TEXT, 1598);
        bad(all + "  ?", TEXT, 1599);
        bad("total 1" + " ".repeat(1592) + "+", TEXT, 1600);
        bad(" ".repeat(1600), TEXT, 1600);
    }

    /** One object is asked long questions one behind another: nothing of one is left in the next. */
    private static void longQuestions() {
        DearLetters sums = told();
        DearLetters tests = told();
        for (int k = 1; k <= 3; k++) {
            asks(sums, "total " + k + "+0".repeat(700), 3 * k);
            asks(sums, "most " + "0+".repeat(700) + k, k);
            asks(tests, "often number<" + k + " and 1=1".repeat(190), k);
            asks(tests, "first number=" + k + " or 1=2".repeat(190), k < 3 ? k : NONE);
        }
    }

    private static void faults() {
        DearLetters mail = new DearLetters();
        for (int round = 0; round < 2; round++) {
            for (int what : new int[] {-1, 2, 3, Texts.LEAST, Texts.MOST}) {
                check.due("fault(" + what + ")", mail.fault(what), NONE);
            }
            check.due("fault(0) ahead of any", mail.fault(0), round == 0 ? 0 : 1);
            check.due("fault(1) ahead of any", mail.fault(1), round == 0 ? NONE : 0);
            Check.ask(mail, "?");
        }
        Check.heap(mail, "cold 101;");
        check.due("of the latest, a heap", 10 * mail.fault(0) + mail.fault(1), 25);
        Check.ask(mail, "total (((((((");
        check.due("of the latest, a question", 100 * mail.fault(0) + mail.fault(1), 412);
        Texts.see(mail, 9);
        Texts.on(mail, 9);
        mail.end(-1);
        check.due("others leave it", 100 * mail.fault(0) + mail.fault(1), 412);
        Check.heap(mail, "cold 100;");
        check.due("of the latest, without a fault", mail.fault(0), 0);
        check.due("its place", mail.fault(1), NONE);
        Check.heap(mail, "x");
        Check.ask(mail, "total 1");
        check.due("of the latest, without a fault", mail.fault(0), 0);
        check.due("its place", mail.fault(1), NONE);
    }
}
