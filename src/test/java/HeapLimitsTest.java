import java.util.List;

/** Term I, sentence by sentence: each limit of a heap's text at it, one below and one beyond; empty and full. */
public final class HeapLimitsTest {
    private static final int TEXT = 1;
    private static final int NUMBER = 2;
    private static final int NAME = 3;
    private static final int OPEN = 4;
    private static final int MANY = 5;
    private static final int NONE = Texts.NONE;
    private static final Check check = new Check("HeapLimitsTest");

    public static void main(String[] args) {
        empty();
        statements();
        numbersOfLetters();
        numbersOfGifts();
        numbersOfWishes();
        numbersOfPairs();
        numbersOfHelpers();
        numbersAlone();
        without();
        lastCounts();
        manyLetters();
        manyGifts();
        manyHelpers();
        manyNear();
        manyLike();
        manySums();
        nameLengths();
        ownWords();
        askingWords();
        unlikeNames();
        aheadOfAsked();
        namesOfTheKind();
        endedTooSoon();
        heapBehindQuestion();
        longHeaps();
        unlikePairs();
        digits();
        blanks();
        sideBySide();
        cutShort();
        partsOfSums();
        openBrackets();
        firstAlongTheText();
        wholeTape();
        check.finish();
    }

    private static DearLetters good(String text, int statements) {
        DearLetters mail = new DearLetters();
        check.due("heap \"" + text + "\"", Check.heap(mail, text), statements);
        check.due("heap \"" + text + "\" fault(0)", mail.fault(0), 0);
        check.due("heap \"" + text + "\" fault(1)", mail.fault(1), NONE);
        check.due("heap \"" + text + "\" status(1)", mail.status(1), 0);
        return mail;
    }

    private static void bad(String text, int fault, int place) {
        DearLetters mail = new DearLetters();
        check.due("heap \"" + text + "\"", Check.heap(mail, text), NONE);
        check.due("heap \"" + text + "\" fault(0)", mail.fault(0), fault);
        check.due("heap \"" + text + "\" fault(1)", mail.fault(1), place);
        check.due("heap \"" + text + "\" status(1)", mail.status(1), 1);
    }

    /** A fault at the first byte behind the good text ahead. */
    private static void badBehind(String good, String text, int fault) {
        bad(good + text, fault, good.length());
    }

    private static void empty() {
        for (String text : new String[] {"", " ", "\n", " \n \n "}) {
            DearLetters mail = good(text, 0);
            for (int what = 0; what < 12; what++) {
                check.due("an empty heap has(" + what + ")", mail.has(what), 0);
            }
        }
    }

    private static void statements() {
        String one = "cold 1;";
        good(one, 1);
        good(one.repeat(79), 79);
        good(one.repeat(80), 80);
        good(one.repeat(80) + "\n ", 80);
        badBehind(one.repeat(80), one, MANY);
        badBehind(one.repeat(80) + " \n", one, MANY);
        for (String other : new String[] {";", "x", "5", "?", "cold", "letter age", "takes (((((((", "A"}) {
            badBehind(one.repeat(80), other, MANY);
        }
        badBehind(one.repeat(79), ";", TEXT);
        bad(one.repeat(79) + "cold 101;", NUMBER, 7 * 79 + 5);
        DearLetters full = good(Texts.letters(8) + Texts.gifts(4, 3) + Texts.helpers(3, "time 1 hand 1 bears 1")
                + Texts.pairs("near", 20, "") + Texts.pairs("like", 10, " 5") + "takes 1;warm 1;" + one.repeat(33), 80);
        int[] most = {8, 4, 3, 20, 10};
        for (int what = 0; what < most.length; what++) {
            check.due("a full heap has(" + what + ")", full.has(what), most[what]);
        }
    }

    /** A number from least to most, one below and one beyond; what is told of it is asked in its place. */
    private static void range(String ahead, int least, int most, String behind) {
        good(ahead + least + behind, countOf(ahead + behind));
        good(ahead + (least + 1) + behind, countOf(ahead + behind));
        good(ahead + (most - 1) + behind, countOf(ahead + behind));
        good(ahead + most + behind, countOf(ahead + behind));
        if (least > 0) {
            bad(ahead + (least - 1) + behind, NUMBER, ahead.length());
        }
        bad(ahead + (most + 1) + behind, NUMBER, ahead.length());
        bad(ahead + (most + 1), NUMBER, ahead.length());
        bad(ahead + 9999 + behind, NUMBER, ahead.length());
        bad(ahead + 10000 + behind, TEXT, ahead.length() + 4);
        bad(ahead + "-1" + behind, TEXT, ahead.length());
        bad(ahead + "x" + behind, TEXT, ahead.length());
        bad(ahead, TEXT, ahead.length());
    }

    private static int countOf(String text) {
        return (int) text.chars().filter(each -> each == ';').count();
    }

    private static void numbersOfLetters() {
        range("letter a age ", 0, 20, " need 1 grave 1;");
        range("letter a age 1 need ", 0, 9, " grave 1;");
        range("letter a age 1 need 1 grave ", 0, 10, ";");
        DearLetters least = good("letter a age 0 need 0 grave 0;", 1);
        DearLetters most = good("letter a age 20 need 9 grave 10;", 1);
        int[] due = {20, 9, 10};
        for (int what = 0; what < 3; what++) {
            check.due("the least, mail(0, " + what + ")", least.mail(0, what), 0);
            check.due("the most, mail(0, " + what + ")", most.mail(0, what), due[what]);
        }
    }

    private static void numbersOfGifts() {
        range("gift p stock ", 0, 3, ";");
        check.due("the least stock", good("gift p stock 0;", 1).gift(0, 0), 0);
        check.due("the most stock", good("gift p stock 3;", 1).gift(0, 0), 3);
    }

    private static void numbersOfWishes() {
        String ahead = Texts.letters(2) + Texts.gifts(2, 1);
        range(ahead + "wish b q ", 1, 9, ";");
        check.due("the least wish", good(ahead + "wish b q 1;", 5).gift(1, 11), 1);
        check.due("the most wish", good(ahead + "wish b q 9;", 5).gift(1, 11), 9);
        check.due("all wishes", good(ahead + "wish b q 9;wish b p 9;", 6).mail(1, 6), 18);
    }

    private static void numbersOfPairs() {
        range(Texts.letters(2) + "like a b ", 0, 10, ";");
        // 0 of ten: two children; 10 of ten: one.
        check.due("the least odds", good(Texts.letters(2) + "like a b 0;", 3).children(NONE), 2);
        check.due("the most odds", good(Texts.letters(2) + "like a b 10;", 3).children(NONE), 1);
    }

    private static void numbersOfHelpers() {
        range("helper x time ", 1, 240, " hand 1 bears 1;");
        range("helper x time 1 hand ", 0, 9, " bears 1;");
        range("helper x time 1 hand 1 bears ", 0, 10, ";");
        DearLetters least = good("helper x time 1 hand 0 bears 0;", 1);
        DearLetters most = good("helper x time 240 hand 9 bears 10;", 1);
        int[][] due = {{1, 240}, {0, 9}, {0, 10}, {1, 240}};
        for (int what = 0; what < 4; what++) {
            check.due("the least, helper(0, " + what + ")", least.helper(0, what), due[what][0]);
            check.due("the most, helper(0, " + what + ")", most.helper(0, what), due[what][1]);
        }
    }

    private static void numbersAlone() {
        range("missed ", 0, 99, ";");
        range("cold ", 0, 100, ";");
        String one = "letter a age 1 need 1 grave 1;letter b age 1 need 1 grave 10;";
        check.due("missed 0", good(one + "missed 0;", 3).tell(0), 2);
        // Missed 99: on both is told, 9 and 0 are lost.
        check.due("missed 99", good(one + "missed 99;", 3).tell(1), 9);
        check.due("cold 0", good("helper x time 1 hand 1 bears 1;cold 0;", 2).chance(50), 0);
        check.due("cold 100", good("helper x time 1 hand 1 bears 1;cold 100;", 2).chance(50), 50);
    }

    private static void without() {
        DearLetters mail = good(Texts.letters(1, "age 5 need 5 grave 2") + Texts.gifts(1, 1)
                + "helper x time 9 hand 7 bears 1;", 3);
        check.due("takes without", mail.takes(0, 0), 20);
        check.due("warm without", mail.warmth(0, 0), 7);
        check.due("a wish without", mail.gift(0, 10), 0);
        check.due("wishes without", mail.mail(0, 6), 0);
        check.due("cold without", mail.chance(50), 0);
        mail.seed(seedOfDrawZero());
        check.due("cold without, a draw of 0", mail.chance(1), 0);
        // Missed is 3: 6 are lost by not telling on what is grave by 2, 8 by telling.
        check.due("missed without", mail.tell(1), 6);
        check.due("near without", mail.mail(0, 7), 0);
        check.due("like without", mail.children(NONE), 1);
        Check.heap(mail, Texts.letters(1) + "helper x time 9 hand 7 bears 1;takes 3;warm 4;missed 9;cold 99;");
        Check.heap(mail, Texts.letters(1, "age 5 need 5 grave 2") + "helper x time 9 hand 7 bears 1;");
        check.due("takes without, behind another heap", mail.takes(0, 0), 20);
        check.due("warm without, behind another heap", mail.warmth(0, 0), 7);
        check.due("cold without, behind another heap", mail.chance(50), 0);
        check.due("missed without, behind another heap", mail.tell(1), 6);
    }

    private static int seedOfDrawZero() {
        int seed = 0;
        while ((1103515245L * seed + 12345) % 2147483648L / 64 % 100 != 0) {
            seed++;
        }
        return seed;
    }

    private static void lastCounts() {
        String two = Texts.letters(2) + Texts.gifts(2, 1);
        DearLetters mail = good(two + "wish a p 9;wish b p 4;wish a q 5;wish a p 2;", 8);
        check.due("the last wish of these two", mail.gift(0, 10), 2);
        check.due("another letter's", mail.gift(0, 11), 4);
        check.due("another gift's", mail.gift(1, 10), 5);
        check.due("all wishes of the last", mail.mail(0, 6), 7);
        check.due("the last missed", good("letter a age 1 need 1 grave 1;missed 99;missed 0;missed 2;", 4).tell(1), 2);
        check.due("the last cold", good("helper x time 1 hand 1 bears 1;cold 0;cold 100;", 3).chance(3), 3);
        check.due("the last cold", good("helper x time 1 hand 1 bears 1;cold 100;cold 0;", 3).chance(3), 0);
    }

    private static void manyLetters() {
        check.due("7 letters", good(Texts.letters(7), 7).has(0), 7);
        DearLetters mail = good(Texts.letters(8), 8);
        check.due("8 letters", mail.has(0), 8);
        check.due("the eighth", mail.letter(0, 7, 0), 8);
        for (String ninth : new String[] {"letter i age 1 need 1 grave 1;", "letter", "letter a", "letter 5", "letter;"}) {
            badBehind(Texts.letters(8), ninth, MANY);
            badBehind(Texts.letters(8) + " \n", ninth, MANY);
        }
        badBehind(Texts.letters(8), "letters", TEXT);
    }

    private static void manyGifts() {
        check.due("3 gifts", good(Texts.gifts(3, 3), 3).has(1), 3);
        check.due("4 gifts", good(Texts.gifts(4, 3), 4).has(1), 4);
        for (String fifth : new String[] {"gift t stock 1;", "gift", "gift p", "gift 5"}) {
            badBehind(Texts.gifts(4, 3), fifth, MANY);
        }
    }

    private static void manyHelpers() {
        String numbers = "time 1 hand 1 bears 1";
        check.due("2 helpers", good(Texts.helpers(2, numbers), 2).has(2), 2);
        check.due("3 helpers", good(Texts.helpers(3, numbers), 3).has(2), 3);
        for (String fourth : new String[] {"helper w time 1 hand 1 bears 1;", "helper", "helper x", "helper 5"}) {
            badBehind(Texts.helpers(3, numbers), fourth, MANY);
        }
    }

    private static void manyNear() {
        check.due("19 pairs", good(Texts.letters(8) + Texts.pairs("near", 19, ""), 27).has(3), 19);
        String full = Texts.letters(8) + Texts.pairs("near", 20, "");
        check.due("20 pairs", good(full, 28).has(3), 20);
        for (String next : new String[] {"near h g;", "near", "near a a", "near b a", "near x"}) {
            badBehind(full, next, MANY);
        }
        good(full + "like h g 5;", 29);
    }

    private static void manyLike() {
        check.due("9 pairs", good(Texts.letters(8) + Texts.pairs("like", 9, " 5"), 17).has(4), 9);
        String full = Texts.letters(8) + Texts.pairs("like", 10, " 5");
        check.due("10 pairs", good(full, 18).has(4), 10);
        for (String next : new String[] {"like h g 5;", "like", "like a a", "like b a 5", "like h g 11"}) {
            badBehind(full, next, MANY);
        }
        good(full + "near h g;", 19);
    }

    private static void manySums() {
        good("takes 1;warm 1;", 2);
        good("warm 1;takes 1;", 2);
        for (String word : new String[] {"takes", "warm"}) {
            good(word + " 1;", 1);
            badBehind(word + " 1;", word + " 1;", MANY);
            badBehind(word + " 1;missed 3;", word, MANY);
            badBehind(word + " 1;cold 3; ", word + " ?", MANY);
        }
    }

    private static void nameLengths() {
        for (String word : new String[] {"letter", "gift", "helper"}) {
            String numbers = word.equals("letter") ? "age 1 need 1 grave 1;"
                    : word.equals("gift") ? "stock 1;" : "time 1 hand 1 bears 1;";
            for (int length = 1; length <= 6; length++) {
                good(word + " " + "zyxwvu".substring(0, length) + " " + numbers, 1);
            }
            bad(word + " zyxwvut " + numbers, TEXT, word.length() + 7);
            bad(word + " zyxwvut", TEXT, word.length() + 7);
            bad(word + " zyxwvutsrqponmlkjihgfedcba", TEXT, word.length() + 7);
            bad(word + " ", TEXT, word.length() + 1);
            bad(word + " ;", TEXT, word.length() + 1);
            bad(word + " " + numbers, TEXT, word.length() + 1);
        }
        // Where a name is asked that is there already, a seventh letter is told at itself, too.
        String six = "letter abcdef age 1 need 1 grave 1;letter b age 1 need 1 grave 1;";
        good(six + "near abcdef b;", 3);
        bad(six + "near abcdefg b;", TEXT, six.length() + 11);
        bad(six + "near b abcdefg;", TEXT, six.length() + 13);
        bad(six + "letter abcdefg", TEXT, six.length() + 13);
        bad(six + "wish abcdefg", TEXT, six.length() + 11);
        bad(six + "like b abcdefg", TEXT, six.length() + 13);
        bad(six + "near abcde b;", NAME, six.length() + 5);
    }

    private static void ownWords() {
        String ahead = Texts.letters(1) + Texts.gifts(1, 1);
        for (String word : Texts.OWN_WORDS) {
            bad("letter " + word + " age 1 need 1 grave 1;", TEXT, 7);
            bad("gift " + word + " stock 1;", TEXT, 5);
            bad("helper " + word + " time 1 hand 1 bears 1;", TEXT, 7);
            bad(ahead + "wish " + word, TEXT, ahead.length() + 5);
            bad(ahead + "wish a " + word, TEXT, ahead.length() + 7);
            bad(ahead + "near " + word, TEXT, ahead.length() + 5);
            bad(ahead + "near a " + word, TEXT, ahead.length() + 7);
            bad(ahead + "like " + word, TEXT, ahead.length() + 5);
            bad(ahead + "like a " + word, TEXT, ahead.length() + 7);
            if (word.length() < 6) {
                good("gift " + word + "x stock 1;", 1);
            }
            good("gift " + (word + "s").substring(1) + " stock 1;", 1);
        }
    }

    /** The words that begin a question are no own words. */
    private static void askingWords() {
        for (String word : Texts.ASKING_WORDS) {
            DearLetters mail = good("letter " + word + " age 1 need 1 grave 1;letter b age 2 need 1 grave 1;near b "
                    + word + ";", 3);
            check.due("a letter " + word, mail.letter(0, 0, 0), word.charAt(0) - 'a' + 1);
            check.due("asked beside a letter " + word, Check.ask(mail, "total age"), 3);
            bad("takes " + word, TEXT, 6);
            bad(word + " 1;", TEXT, 0);
        }
    }

    private static void unlikeNames() {
        String[] told = {"letter n age 1 need 1 grave 1;", "gift n stock 1;", "helper n time 1 hand 1 bears 1;"};
        for (String first : told) {
            for (String second : told) {
                bad(first + second, NAME, first.length() + second.indexOf(' ') + 1);
                good(first + second.replace(" n ", " m "), 2);
                good(first + second.replace(" n ", " nn "), 2);
            }
        }
    }

    private static void aheadOfAsked() {
        String one = Texts.letters(1);
        bad(one + "wish a p 1;gift p stock 1;", NAME, one.length() + 7);
        bad("gift p stock 1;wish a p 1;" + one, NAME, 20);
        bad(one + "near a b;letter b age 1 need 1 grave 1;", NAME, one.length() + 7);
        bad(one + "near b a;letter b age 1 need 1 grave 1;", NAME, one.length() + 5);
        bad(one + "like a b 1;letter b age 1 need 1 grave 1;", NAME, one.length() + 7);
        bad(one + "like b a 1;letter b age 1 need 1 grave 1;", NAME, one.length() + 5);
    }

    private static void namesOfTheKind() {
        String all = Texts.letters(2) + Texts.gifts(1, 1) + Texts.helpers(1, "time 1 hand 1 bears 1");
        for (String other : new String[] {"p", "x", "none"}) {
            bad(all + "wish " + other + " p 1;", NAME, all.length() + 5);
            bad(all + "near " + other + " a;", NAME, all.length() + 5);
            bad(all + "near a " + other + ";", NAME, all.length() + 7);
            bad(all + "like " + other + " a 1;", NAME, all.length() + 5);
            bad(all + "like a " + other + " 1;", NAME, all.length() + 7);
        }
        for (String other : new String[] {"a", "b", "x", "none"}) {
            bad(all + "wish a " + other + " 1;", NAME, all.length() + 7);
        }
        // Each name of a fault is told ahead of what stands behind it.
        bad(all + "wish none none 0", NAME, all.length() + 5);
        bad(all + "wish a none 0", NAME, all.length() + 7);
        bad(all + "near none ?", NAME, all.length() + 5);
    }

    /** A statement that ends ahead of its last word or number. */
    private static void endedTooSoon() {
        String all = Texts.letters(2) + Texts.gifts(1, 1);
        for (String text : new String[] {"letter", "letter n", "letter n age", "letter n age 1", "letter n age 1 need",
            "letter n age 1 need 1", "letter n age 1 need 1 grave", "gift", "gift n", "gift n stock", "wish", "wish a",
            "wish a p", "near", "near a", "like", "like a", "like a b", "helper", "helper n", "helper n time",
            "helper n time 1", "helper n time 1 hand", "helper n time 1 hand 1", "helper n time 1 hand 1 bears", "takes",
            "warm", "missed", "cold"}) {
            bad(all + text + ";", TEXT, all.length() + text.length());
            bad(all + text + " ;cold 1;", TEXT, all.length() + text.length() + 1);
            bad(all + text, TEXT, all.length() + text.length());
        }
    }

    /** Words of questions are no words of a heap's sums, whatever was asked ahead. */
    private static void heapBehindQuestion() {
        DearLetters mail = good(Texts.letters(1) + Texts.helpers(1, "time 9 hand 7 bears 1"), 2);
        for (String part : new String[] {"number", "sheet", "done", "gift", "wish 0"}) {
            check.due("total " + part, Check.ask(mail, "total " + part), 0);
            check.due("takes " + part, Check.heap(mail, "takes " + part + ";"), NONE);
            check.due("its place", 10 * mail.fault(0) + mail.fault(1), 16);
        }
        check.due("a test", Check.ask(mail, "often all"), 1);
        check.due("hand behind a question", Check.heap(mail, Texts.letters(1)
                + Texts.helpers(1, "time 9 hand 7 bears 1") + "takes hand;"), 3);
        check.due("its time", mail.takes(0, 0), 7);
    }

    /** One object reads long heaps one behind another: nothing of one is left in the next. */
    private static void longHeaps() {
        DearLetters mail = new DearLetters();
        String two = Texts.letters(1) + Texts.helpers(1, "time 9 hand 7 bears 1");
        for (int k = 1; k <= 5; k++) {
            String sums = "takes " + k + "+0".repeat(300) + ";warm " + "0+".repeat(300) + "2*" + k + ";";
            check.due("long heap " + k, Check.heap(mail, two + sums), 4);
            check.due("its time", mail.takes(0, 0), k);
            check.due("its warmth", mail.warmth(0, 0), 2 * k);
        }
        check.due("a long heap with a fault", Check.heap(mail, two + "takes 1" + "+1".repeat(700) + "?"), NONE);
        check.due("the time stays", mail.takes(0, 0), 5);
        check.due("the warmth stays", mail.warmth(0, 0), 10);
    }

    private static void unlikePairs() {
        String two = Texts.letters(3);
        for (String word : new String[] {"near", "like"}) {
            String end = word.equals("like") ? " 5" : "";
            bad(two + word + " a a" + end + ";", NAME, two.length() + 7);
            bad(two + word + " c c" + end + ";", NAME, two.length() + 7);
            String told = two + word + " b a" + end + ";";
            good(told, 4);
            bad(told + word + " b a" + end + ";", NAME, told.length() + 7);
            bad(told + word + " a b" + end + ";", NAME, told.length() + 7);
            bad(told + word + " a b", NAME, told.length() + 7);
            good(told + word + " a c" + end + ";" + word + " c b" + end + ";", 6);
        }
        good(two + "near a b;like a b 5;", 5);
        good(two + "like a b 5;near b a;", 5);
        DearLetters mail = good(two + "near c a;near c b;", 5);
        check.due("told near a", mail.mail(0, 7), 4);
        check.due("told near b", mail.mail(1, 7), 4);
        check.due("told near c", mail.mail(2, 7), 3);
    }

    private static void digits() {
        good("missed 1;", 1);
        good("missed 01;", 1);
        good("missed 0099;", 1);
        bad("missed 00099;", TEXT, 11);
        bad("missed 00000;", TEXT, 11);
        bad("missed 123456;", TEXT, 11);
        bad("missed 1234;", NUMBER, 7);
        bad("missed 12345", TEXT, 11);
        good("takes 9999;", 1);
        good("takes 0000;", 1);
        bad("takes 10000;", TEXT, 10);
        bad("takes 00000;", TEXT, 10);
        bad("takes 1+99999;", TEXT, 12);
        bad("takes 1+12345678;", TEXT, 12);
    }

    private static void blanks() {
        good("letter a age 1 need 1 grave 1;", 1);
        good("\n\nletter\na\nage\n1\nneed\n1\ngrave\n1\n;\n", 1);
        good("  letter   a   age   1   need   1   grave   1  ;  cold  2  ;  ", 2);
        good("takes(1+2)*min(age,need)/max(hand,day)-3;", 1);
        good("takes ( 1 + 2 ) * min\n( age , need ) / max ( hand , day ) - 3 ;", 1);
        for (int other : new int[] {0, 1, 9, 11, 12, 13, 31, 33, 95, 127, 160, 255}) {
            String sign = String.valueOf((char) other);
            bad(sign, TEXT, 0);
            bad("letter" + sign + "a", TEXT, 6);
            bad("letter a age 1" + sign + "need 1 grave 1;", TEXT, 14);
            bad("cold 1;" + sign, TEXT, 7);
            bad("cold 1" + sign, TEXT, 6);
            bad("takes" + sign + "1;", TEXT, 5);
        }
    }

    private static void sideBySide() {
        bad("lettera age 1 need 1 grave 1;", TEXT, 0);
        bad("letter aage 1 need 1 grave 1;", TEXT, 12);
        bad("letter a age1 need 1 grave 1;", TEXT, 12);
        bad("letter a age 1need 1 grave 1;", TEXT, 14);
        bad("letter a1 age 1 need 1 grave 1;", TEXT, 8);
        bad("letter a age 1 need1 grave 1;", TEXT, 19);
        bad("gift p stock1;", TEXT, 12);
        bad("cold1;", TEXT, 4);
        bad("takes1;", TEXT, 5);
        bad("takes age1;", TEXT, 9);
        bad("takes 1age;", TEXT, 7);
        bad("takes ageneed;", TEXT, 6);
        bad("takes 1 1;", TEXT, 8);
        bad("takes age age;", TEXT, 10);
    }

    /** Each beginning of a text: behind a statement it is whole, within a word that word is unknown, else it ends too soon. */
    private static void cutShort() {
        String text = "letter lisa age 6 need 8 grave 2; gift bike stock 1;wish lisa bike 5;letter tom age 9 need 3 grave 0;"
                + "near lisa tom;like lisa tom 8;helper ann time 60 hand 7 bears 5;takes 10+min(grave,(5-hand))*day;missed 2;";
        int whole = 0;
        for (int length = 0; length <= text.length(); length++) {
            String cut = text.substring(0, length);
            whole += cut.endsWith(";") ? 1 : 0;
            String word = cut.substring(cut.replaceAll("[a-z]*$", "").length());
            String behind = cut.substring(0, cut.length() - word.length()).trim();
            if (behind.isEmpty() && word.isEmpty() || cut.trim().endsWith(";")) {
                good(cut, whole);
            } else if (word.isEmpty() || isWordOfText(text, cut, word)) {
                bad(cut, TEXT, length);
            } else {
                bad(cut, isNameAsked(behind) ? NAME : TEXT, length - word.length());
            }
        }
    }

    /** Whether this beginning of a word is a word that may stand there: the whole word, or a name to be given. */
    private static boolean isWordOfText(String text, String cut, String word) {
        boolean whole = cut.length() == text.length() || !Character.isLetter(text.charAt(cut.length()));
        String behind = cut.substring(0, cut.length() - word.length()).trim();
        boolean given = behind.endsWith("letter") || behind.endsWith("gift") || behind.endsWith("helper");
        return whole || given;
    }

    private static boolean isNameAsked(String behind) {
        String[] words = behind.substring(behind.lastIndexOf(';') + 1).trim().split(" ");
        boolean pair = words[0].equals("wish") || words[0].equals("near") || words[0].equals("like");
        return pair && words.length < 3;
    }

    private static void partsOfSums() {
        for (String part : new String[] {"0", "9999", "age", "need", "grave", "hand", "wishes", "day", "(1)", "min(1,2)",
            "max(1,2)"}) {
            good("takes " + part + ";", 1);
            good("warm " + part + ";", 1);
            good("takes 1+" + part + "*" + part + ";", 1);
        }
        for (String word : Texts.OWN_WORDS) {
            boolean part = List.of("age", "need", "grave", "hand", "wishes", "day").contains(word);
            boolean choice = word.equals("min") || word.equals("max");
            if (!part && !choice) {
                bad("takes " + word + ";", TEXT, 6);
                bad("warm 1+" + word + ";", TEXT, 7);
            }
        }
        bad("takes ;", TEXT, 6);
        bad("takes", TEXT, 5);
        bad("takes x;", TEXT, 6);
        bad("takes abcdefg;", TEXT, 6);
        bad("takes 1+;", TEXT, 8);
        bad("takes 1*;", TEXT, 8);
        bad("takes *1;", TEXT, 6);
        bad("takes -1;", TEXT, 6);
        bad("takes 1--1;", TEXT, 8);
        bad("takes 1<2;", TEXT, 7);
        bad("takes [1];", TEXT, 6);
        bad("takes ();", TEXT, 7);
        bad("takes (1;", TEXT, 8);
        bad("takes 1);", TEXT, 7);
        bad("takes (1,2);", TEXT, 8);
        bad("takes min;", TEXT, 9);
        bad("takes min 1;", TEXT, 10);
        bad("takes min();", TEXT, 10);
        bad("takes min(1);", TEXT, 11);
        bad("takes min(1,);", TEXT, 12);
        bad("takes min(1,2;", TEXT, 13);
        bad("takes min(1,2,3);", TEXT, 13);
        bad("takes max(1 2);", TEXT, 12);
    }

    private static void openBrackets() {
        for (int n = 1; n <= 6; n++) {
            good("takes " + "(".repeat(n) + "1" + ")".repeat(n) + ";", 1);
            good("takes " + "min(1,".repeat(n) + "1" + ")".repeat(n) + ";", 1);
            good("warm " + "max(".repeat(n) + "1" + ",1)".repeat(n) + ";", 1);
        }
        bad("takes (((((((1)))))));", OPEN, 12);
        bad("takes ((((((((", OPEN, 12);
        bad("takes ((((((1+(", OPEN, 14);
        bad("takes ((((((1*2-3+(4", OPEN, 18);
        bad("takes " + "min(1,".repeat(7), OPEN, 6 + 6 * 6 + 3);
        bad("takes " + "max(".repeat(7), OPEN, 6 + 4 * 6 + 3);
        bad("takes ((((((min", TEXT, 15);
        bad("takes ((((((min 1", TEXT, 16);
        bad("takes ((((((min (1,2)", OPEN, 16);
        // What is shut is open no more.
        good("takes ((((((1))))))+((((((1))))))*min(1,(((((1))))));", 1);
        good("takes " + "(1)+".repeat(9) + "(1);", 1);
        good("takes min((((((1))))),(((((2))))));", 1);
        bad("takes ((((((1))))))+(((((((1)))))));", OPEN, 26);
        bad("takes min((((((1))))),((((((2)))))));", OPEN, 27);
        good("takes ((((((1))))));warm ((((((1))))));", 2);
    }

    /** The first fault along the text is told, whatever is behind it. */
    private static void firstAlongTheText() {
        bad("letter a age 21 need 10 grave 11;?", NUMBER, 13);
        bad("letter a age 20 need 10 grave 11;?", NUMBER, 21);
        bad("letter a age 20 need 9 grave 11;?", NUMBER, 29);
        bad("letter age age 21", TEXT, 7);
        bad("cold 101;near x y;takes (((((((;", NUMBER, 5);
        bad("cold 100;near x y;takes (((((((;", NAME, 14);
        bad("cold 100;takes (((((((;near x y;", OPEN, 21);
        bad("takes 1;takes (((((((;near x y;", MANY, 8);
        bad(Texts.letters(2) + "like a a 11;", NAME, Texts.letters(2).length() + 7);
        bad(Texts.letters(2) + "like a b 11?", NUMBER, Texts.letters(2).length() + 9);
        bad("gift p stock 4 x", NUMBER, 13);
        bad("gift p stock 3 x", TEXT, 15);
    }

    private static void wholeTape() {
        String statement = "missed 7" + " ".repeat(11) + ";";
        DearLetters mail = good("letter a age 1 need 1 grave 10" + " ".repeat(9) + ";" + statement.repeat(78), 79);
        check.due("the last byte of 1600 is read", mail.tell(1), 0);
        String full = statement.repeat(80);
        check.due("1600 bytes", full.length(), 1600);
        good(full, 80);
        bad(full.substring(0, 1599), TEXT, 1599);
        bad(full.substring(0, 1599) + "?", TEXT, 1599);
        bad(full.substring(0, 1599) + " ", TEXT, 1600);
        StringBuilder sum = new StringBuilder("helper x time 1 hand 1 bears 1;letter a age 1 need 1 grave 1;takes 1");
        while (sum.length() < 1598) {
            sum.append("+1");
        }
        sum.append(sum.length() == 1599 ? ";" : " ;");
        check.due("1600 bytes", sum.length(), 1600);
        check.due("a sum up to byte 1600", good(sum.toString(), 3).takes(0, 0), sum.chars().filter(c -> c == '+').count() + 1);
        bad(" ".repeat(1599) + "x", TEXT, 1599);
        good(" ".repeat(1600), 0);
    }
}
