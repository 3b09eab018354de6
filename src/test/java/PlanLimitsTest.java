/** WARMEST of Term II, Term III and promises 14 to 24, sentence by sentence. */
public final class PlanLimitsTest {
    private static final int NONE = Texts.NONE;
    private static final String QUIET = "age 0 need 0 grave 0";
    private static final Check check = new Check("PlanLimitsTest");

    public static void main(String[] args) {
        warmestOfNone();
        warmestMostLetters();
        warmestWarmth();
        warmestFirstRow();
        warmestMinutes();
        warmestBearing();
        warmestAnsweredAhead();
        warmestFull();
        aheadThirty();
        aheadDay();
        aheadWithoutDraws();
        finishedNow();
        finishedThirty();
        finishedDay();
        sheetsOfNone();
        sheetsFewest();
        sheetsFirstRow();
        sheetsAsIfNone();
        sharedOfNone();
        sharedMost();
        sharedFirstRow();
        sharedLeft();
        tellNumbers();
        tellLikeOnes();
        childrenOfNone();
        childrenOdds();
        childrenFirstRow();
        childrenNames();
        minutesRows();
        minutesOfLetters();
        whoseOnThisDay();
        whoseAll();
        watchedFewest();
        watchedLeft();
        watchedWithout();
        check.finish();
    }

    private static DearLetters told(String text) {
        return Texts.told(check, text);
    }

    private static void due(String call, long got, long want) {
        check.due(call, got, want);
    }

    private static void warmest(String what, DearLetters mail, long warmth, int... row) {
        int count = 0;
        for (int letter = 0; letter < row.length; letter++) {
            due("warmest, " + what + " " + letter, mail.warmest(letter), row[letter]);
            count += row[letter] == NONE ? 0 : 1;
        }
        due("warmest, " + what + " count", mail.warmest(NONE), count);
        due("warmest, " + what + " warmth", mail.warms(), warmth);
        due("warmest, " + what + " behind the last", mail.warmest(row.length), NONE);
        due("warmest, " + what + " below NONE", mail.warmest(-2), NONE);
        due("later(1), " + what, mail.later(1), mail.has(6) + count);
    }

    private static void warmestOfNone() {
        warmest("a new object", new DearLetters(), 0);
        warmest("no letters", told(Texts.helpers(3, "time 240 hand 9 bears 10")), 0);
        warmest("no helpers", told(Texts.letters(2, QUIET)), 0, NONE, NONE);
        warmest("one and one", told(Texts.letters(1, QUIET) + Texts.helpers(1, "time 20 hand 9 bears 0")), 9, 0);
    }

    private static void warmestMostLetters() {
        // One letter by warmth of a million, or two that are as cold as can be.
        warmest("two cold ones ahead of a warm one", told("letter a age 20 need 0 grave 0;letter b age 1 need 0 grave 0;"
                + "letter c age 1 need 0 grave 0;" + Texts.helpers(1, "time 20 hand 1 bears 0")
                + "takes age;warm (age-10)*1000*1000;"), -2000000, NONE, 0, 0);
        warmest("one cold one ahead of none", told(Texts.letters(1, QUIET) + Texts.helpers(1, "time 20 hand 1 bears 0")
                + "warm 0-1000*1000;"), -1000000, 0);
        warmest("warmth of 0", told(Texts.letters(1, QUIET) + Texts.helpers(1, "time 20 hand 0 bears 0")), 0, 0);
    }

    private static void warmestWarmth() {
        String two = "letter a age 3 need 0 grave 0;letter b age 4 need 0 grave 0;";
        String one = Texts.helpers(1, "time 20 hand 1 bears 0");
        warmest("the warmer second", told(two + one + "warm age;"), 4, NONE, 0);
        warmest("the warmer first", told(two + one + "warm 0-age;"), -3, 0, NONE);
        String helpers = "helper x time 20 hand 4 bears 0;helper y time 40 hand 5 bears 0;";
        warmest("both by the warmer helper", told(two + helpers), 10, 1, 1);
        // By x 34 and 44, by y 5 each; x has minutes for one.
        warmest("the warmest together", told(two + helpers + "warm (5-hand)*age*10+hand;"), 49, 1, 0);
    }

    private static void warmestFirstRow() {
        String three = Texts.letters(3, QUIET);
        warmest("the last of like letters", told(three + Texts.helpers(1, "time 20 hand 1 bears 0")), 1, NONE, NONE, 0);
        warmest("the last two", told(three + Texts.helpers(1, "time 40 hand 1 bears 0")), 2, NONE, 0, 0);
        warmest("the first of like helpers", told(three + Texts.helpers(3, "time 60 hand 1 bears 0")), 3, 0, 0, 0);
        warmest("as far as he can", told(three + Texts.helpers(2, "time 40 hand 1 bears 0")), 3, 0, 0, 1);
        warmest("helpers by numbers", told(three + Texts.helpers(3, "time 20 hand 1 bears 0")), 3, 0, 1, 2);
    }

    private static void warmestMinutes() {
        String two = Texts.letters(2, QUIET);
        warmest("all minutes of both", told(two + Texts.helpers(1, "time 40 hand 1 bears 0")), 2, 0, 0);
        warmest("a minute less", told(two + Texts.helpers(1, "time 39 hand 1 bears 0")), 1, NONE, 0);
        warmest("each alone", told(two + Texts.helpers(1, "time 20 hand 1 bears 0")), 1, NONE, 0);
        warmest("none", told(two + Texts.helpers(1, "time 19 hand 1 bears 0")), 0, NONE, NONE);
        warmest("one minute each", told(two + Texts.helpers(1, "time 2 hand 1 bears 0") + "takes 0;"), 2, 0, 0);
        DearLetters mail = told(Texts.letters(3, QUIET) + Texts.helpers(1, "time 60 hand 1 bears 0"));
        mail.answer(2, 0);
        warmest("minutes left, not told", mail, 2, 0, 0, NONE);
        mail.answer(1, 0);
        warmest("minutes left", mail, 1, 0, NONE, NONE);
    }

    private static void warmestBearing() {
        String two = "letter a age 0 need 0 grave 5;letter b age 0 need 0 grave 4;";
        warmest("bears both", told(two + Texts.helpers(1, "time 40 hand 1 bears 5")), 2, 0, 0);
        warmest("bears one", told(two + Texts.helpers(1, "time 40 hand 1 bears 4")), 1, NONE, 0);
        warmest("bears none", told(two + Texts.helpers(1, "time 40 hand 1 bears 3")), 0, NONE, NONE);
        warmest("the graver by who bears it", told(two + "helper x time 20 hand 9 bears 4;helper y time 20 hand 1 bears 5;"),
                10, 1, 0);
    }

    private static void warmestAnsweredAhead() {
        DearLetters mail = told(Texts.letters(2, QUIET) + Texts.helpers(2, "time 40 hand 3 bears 0"));
        mail.answer(0, 1);
        warmest("one is answered", mail, 3, NONE, 0);
        mail.answer(1, 1);
        warmest("all are answered", mail, 0, NONE, NONE);
    }

    private static void warmestFull() {
        warmest("eight and three", told(Texts.letters(8, QUIET) + Texts.helpers(3, "time 240 hand 9 bears 10")
                + "warm 1000*1000;"), 8000000, 0, 0, 0, 0, 0, 0, 0, 0);
        warmest("eight and three, the coldest", told(Texts.letters(8, QUIET)
                + Texts.helpers(3, "time 60 hand 9 bears 10") + "warm 0-1000*1000;"), -8000000, 0, 0, 0, 1, 1, 1, 2, 2);
        warmest("seven at the most", told(Texts.letters(8, QUIET) + "helper x time 59 hand 9 bears 10;"
                + "helper y time 60 hand 9 bears 10;helper z time 40 hand 9 bears 10;"), 63, NONE, 0, 0, 1, 1, 1, 2, 2);
        warmest("the last helper is the warmest", told(Texts.letters(8, QUIET) + "helper x time 240 hand 1 bears 10;"
                + "helper y time 240 hand 2 bears 10;helper z time 240 hand 3 bears 10;"), 24, 2, 2, 2, 2, 2, 2, 2, 2);
    }

    private static void aheadThirty() {
        DearLetters mail = told(Texts.letters(3, QUIET) + Texts.helpers(1, "time 1 hand 1 bears 0")
                + "takes 30-day;");
        for (int n : new int[] {-2, -1, 31, 32, Texts.LEAST, Texts.MOST}) {
            due("later(" + n + ")", mail.later(n), NONE);
        }
        // On day 29 a letter takes a minute, then all do.
        due("later(0)", mail.later(0), 0);
        due("later(1)", mail.later(1), 0);
        due("later(29)", mail.later(29), 0);
        due("later(30)", mail.later(30), 1);
        mail.evenings(1);
        due("later(29), a day on", mail.later(29), 1);
        due("later(30), a day on", mail.later(30), 2);
        due("nothing goes by", mail.has(5), 1);
        due("nothing is answered", mail.has(6), 0);
        due("a new object", new DearLetters().later(30), 0);
        due("a new object", new DearLetters().later(31), NONE);
    }

    private static void aheadDay() {
        DearLetters mail = told(Texts.letters(8, QUIET) + Texts.helpers(1, "time 20 hand 1 bears 0"));
        for (int day : new int[] {968, 969, 970, 971, 998, 999}) {
            Texts.onDay(mail, day);
            int most = Math.min(30, 999 - day);
            due("later(" + most + ") on day " + day, mail.later(most), Math.min(8, most));
            due("later(" + (most + 1) + ") on day " + day, mail.later(most + 1), NONE);
            due("later(0) on day " + day, mail.later(0), 0);
        }
        due("later(30) on day 999", mail.later(30), NONE);
    }

    private static void aheadWithoutDraws() {
        DearLetters mail = told(Texts.letters(2, QUIET) + Texts.helpers(1, "time 20 hand 1 bears 0") + "cold 100;");
        due("later without colds", mail.later(2), 2);
        due("finished without colds", mail.finished(), 2);
        mail.answer(0, 0);
        due("the first evening by minutes left", mail.later(1), 1);
        due("the second by minutes as told", mail.later(2), 2);
        due("behind how many", mail.finished(), 2);
    }

    private static void finishedNow() {
        due("a new object", new DearLetters().finished(), 0);
        due("no letters", told(Texts.helpers(1, "time 20 hand 1 bears 0")).finished(), 0);
        DearLetters mail = told(Texts.letters(1, QUIET) + Texts.helpers(1, "time 20 hand 1 bears 0"));
        due("one evening", mail.finished(), 1);
        mail.answer(0, 0);
        due("now", mail.finished(), 0);
        due("never", told(Texts.letters(1, QUIET)).finished(), NONE);
        due("all but one", told(Texts.letters(2, QUIET) + "letter c age 0 need 0 grave 1;"
                + Texts.helpers(1, "time 240 hand 1 bears 0")).finished(), NONE);
    }

    private static void finishedThirty() {
        String one = Texts.letters(1, QUIET) + Texts.helpers(1, "time 1 hand 1 bears 0");
        due("behind 29", told(one + "takes 29-day;").finished(), 29);
        due("behind 30", told(one + "takes 30-day;").finished(), 30);
        due("behind 31", told(one + "takes 31-day;").finished(), NONE);
    }

    private static void finishedDay() {
        DearLetters mail = told(Texts.letters(3, QUIET) + Texts.helpers(1, "time 20 hand 1 bears 0"));
        int[][] days = {{969, 3}, {970, 3}, {995, 3}, {996, 3}, {997, NONE}, {998, NONE}, {999, NONE}};
        for (int[] each : days) {
            Texts.onDay(mail, each[0]);
            due("finished on day " + each[0], mail.finished(), each[1]);
        }
        // 30 evenings from day 969 are the most.
        DearLetters late = told(Texts.letters(1, QUIET) + Texts.helpers(1, "time 1 hand 1 bears 0") + "takes 999-day;");
        Texts.onDay(late, 969);
        due("in the evening of day 998", late.finished(), 30);
        Texts.onDay(late, 968);
        due("an evening too many", late.finished(), NONE);
        Texts.onDay(late, 970);
        due("an evening less", late.finished(), 29);
        DearLetters done = told("");
        Texts.onDay(done, 999);
        due("now, on day 999", done.finished(), 0);
    }

    private static void sheets(String what, String text, int kinds, int... row) {
        DearLetters mail = told(text);
        due("sheets, " + what, mail.sheets(NONE), kinds);
        for (int letter = 0; letter < row.length; letter++) {
            due("sheets, " + what + " " + letter, mail.sheets(letter), row[letter]);
        }
        due("sheets, " + what + " behind the last", mail.sheets(row.length), NONE);
        due("sheets, " + what + " below NONE", mail.sheets(-2), NONE);
    }

    private static void sheetsOfNone() {
        due("a new object", new DearLetters().sheets(NONE), 0);
        due("a new object", new DearLetters().sheets(0), NONE);
        sheets("no letters", "gift p stock 1;", 0);
        sheets("one letter", Texts.letters(1), 1, 1);
        sheets("none near", Texts.letters(8), 1, 1, 1, 1, 1, 1, 1, 1, 1);
    }

    private static void sheetsFewest() {
        String eight = Texts.letters(8);
        for (int kinds = 2; kinds <= 6; kinds++) {
            int[] row = {1, 1, 1, 1, 1, 1, 1, 1};
            for (int letter = 0; letter < kinds; letter++) {
                row[letter] = letter + 1;
            }
            sheets("all of " + kinds + " near", eight + Texts.pairs("near", kinds * (kinds - 1) / 2, ""), kinds, row);
        }
        sheets("a ring of seven", eight + "near a b;near b c;near c d;near d e;near e f;near f g;near g a;", 3,
                1, 2, 1, 2, 1, 2, 3, 1);
        sheets("a ring of eight", eight + "near a b;near b c;near c d;near d e;near e f;near f g;near g h;near h a;", 2,
                1, 2, 1, 2, 1, 2, 1, 2);
        // More kinds than there are sheets to be had.
        sheets("six near, and one that is near five", eight + Texts.pairs("near", 15, "") + "near g a;near g b;near g c;"
                + "near g d;near g e;", 6, 1, 2, 3, 4, 5, 6, 6, 1);
    }

    private static void sheetsFirstRow() {
        String eight = Texts.letters(8);
        // The least kind for each in turn would take three kinds.
        sheets("fewest ahead of first", eight + "near a d;near d c;near c b;", 2, 1, 2, 1, 2, 1, 1, 1, 1);
        sheets("two crowns", eight + "near a d;near a f;near a h;near c b;near c f;near c h;near e b;near e d;near e h;"
                + "near g b;near g d;near g f;", 2, 1, 2, 1, 2, 1, 2, 1, 2);
        sheets("a star by its last", eight + "near h a;near h b;near h c;", 2, 1, 1, 1, 1, 1, 1, 1, 2);
        sheets("a star by its first", eight + "near a b;near a c;near a h;", 2, 1, 2, 2, 1, 1, 1, 1, 2);
    }

    private static void sheetsAsIfNone() {
        DearLetters mail = told(Texts.letters(2) + "near a b;");
        mail.sheet(0, 4);
        mail.sheet(1, 3);
        due("as if none had one", 10 * mail.sheets(0) + mail.sheets(1), 12);
        due("kinds", mail.sheets(NONE), 2);
    }

    private static void shared(String what, DearLetters mail, int together, int... row) {
        due("shared, " + what, mail.shared(NONE), together);
        for (int letter = 0; letter < row.length; letter++) {
            due("shared, " + what + " " + letter, mail.shared(letter), row[letter]);
        }
        due("shared, " + what + " behind the last", mail.shared(row.length), NONE);
        due("shared, " + what + " below NONE", mail.shared(-2), NONE);
    }

    private static void sharedOfNone() {
        shared("a new object", new DearLetters(), 0);
        shared("no letters", told(Texts.gifts(4, 3)), 0);
        shared("no gifts", told(Texts.letters(2)), 0, NONE, NONE);
        shared("no wishes", told(Texts.letters(2) + Texts.gifts(4, 3)), 0, NONE, NONE);
        shared("no stock", told(Texts.letters(2) + Texts.gifts(1, 0) + "wish a p 9;wish b p 9;"), 0, NONE, NONE);
        shared("no need", told(Texts.letters(2, QUIET) + Texts.gifts(1, 3) + "wish a p 9;wish b p 9;"), 0, NONE, NONE);
        shared("the least", told(Texts.letters(1) + Texts.gifts(1, 1) + "wish a p 1;"), 1, 0);
        shared("the most", told(Texts.letters(1, "age 0 need 9 grave 0") + Texts.gifts(1, 1) + "wish a p 9;"), 81, 0);
    }

    private static void sharedMost() {
        String two = "letter a age 0 need 4 grave 0;letter b age 0 need 5 grave 0;";
        shared("need times the wish", told(two + Texts.gifts(1, 1) + "wish a p 5;wish b p 5;"), 25, NONE, 0);
        shared("the greater wish", told(two + Texts.gifts(1, 1) + "wish a p 9;wish b p 7;"), 36, 0, NONE);
        shared("one each at most", told(two + Texts.gifts(2, 3) + "wish a p 5;wish a q 6;"), 24, 1, NONE);
        for (int stock = 0; stock <= 3; stock++) {
            int[] row = {NONE, NONE, NONE, NONE};
            for (int k = 0; k < stock; k++) {
                row[3 - k] = 0;
            }
            shared("a stock of " + stock, told(Texts.letters(4) + Texts.gifts(1, stock)
                    + "wish a p 2;wish b p 2;wish c p 2;wish d p 2;"), 2 * stock, row);
        }
        for (int gift = 0; gift < 4; gift++) {
            String name = " " + (char) ('p' + gift) + " ";
            String wishes = "wish a" + name + "2;wish b" + name + "4;wish c" + name + "3;";
            String stocks = Texts.gifts(4, 0);
            shared("none of gift " + gift, told(Texts.letters(3) + stocks + wishes), 0, NONE, NONE, NONE);
            shared("one of gift " + gift, told(Texts.letters(3) + stocks.replace(name + "stock 0", name + "stock 1")
                    + wishes), 4, NONE, gift, NONE);
            shared("two of gift " + gift, told(Texts.letters(3) + Texts.gifts(4, 3).replace(name + "stock 3",
                    name + "stock 2") + wishes), 7, NONE, gift, gift);
            shared("three of gift " + gift, told(Texts.letters(3) + Texts.gifts(4, 3) + wishes), 9, gift, gift, gift);
        }
        StringBuilder all = new StringBuilder(Texts.letters(8, "age 0 need 9 grave 0") + Texts.gifts(4, 3));
        for (char letter = 'a'; letter <= 'h'; letter++) {
            for (char gift = 'p'; gift <= 's'; gift++) {
                all.append("wish ").append(letter).append(' ').append(gift).append(" 9;");
            }
        }
        shared("full", told(all.toString()), 8 * 81, 0, 0, 0, 1, 1, 1, 2, 2);
    }

    private static void sharedFirstRow() {
        String two = "letter a age 0 need 2 grave 0;letter b age 0 need 3 grave 0;";
        shared("none ahead of a gift", told(two + Texts.gifts(1, 1) + "wish a p 3;wish b p 2;"), 6, NONE, 0);
        shared("the first of like gifts", told(two + Texts.gifts(2, 1) + "wish a p 3;wish a q 3;"), 6, 0, NONE);
        shared("the first row, the second gets the other", told(two + Texts.gifts(2, 1)
                + "wish a p 3;wish a q 3;wish b p 2;wish b q 2;"), 12, 0, 1);
        shared("a gift without a wish is none", told(two + Texts.gifts(2, 3) + "wish b q 1;"), 3, NONE, 1);
    }

    private static void sharedLeft() {
        DearLetters mail = told(Texts.letters(2, "age 0 need 1 grave 0") + Texts.gifts(2, 1)
                + "wish a p 9;wish a q 1;wish b p 2;wish b q 3;");
        shared("at first", mail, 12, 0, 1);
        mail.give(1, 0);
        shared("one has one, one of the stock less", mail, 1, 1, NONE);
        mail.give(0, 1);
        shared("all have one", mail, 0, NONE, NONE);
    }

    private static void tell(String what, String text, int number, int lost) {
        DearLetters mail = told(text);
        due("tell(0), " + what, mail.tell(0), number);
        due("tell(1), " + what, mail.tell(1), lost);
        for (int n : new int[] {-1, 2, Texts.LEAST, Texts.MOST}) {
            due("tell(" + n + "), " + what, mail.tell(n), NONE);
        }
    }

    private static String graves(int... graves) {
        StringBuilder all = new StringBuilder();
        for (int k = 0; k < graves.length; k++) {
            all.append("letter ").append((char) ('a' + k)).append(" age 0 need 0 grave ").append(graves[k]).append(';');
        }
        return all.toString();
    }

    private static void tellNumbers() {
        due("a new object", new DearLetters().tell(0), 0);
        due("a new object", new DearLetters().tell(1), 0);
        tell("no letters", "missed 99;", 0, 0);
        tell("on none of grave 0", graves(0), 1, 0);
        tell("on one of grave 10", graves(10), 0, 0);
        // As grave as the number, or more: 5 by 5 is told on.
        tell("as grave as the number", graves(5, 4) + "missed 1;", 5, 9);
        tell("from 5 on", graves(5, 2) + "missed 2;", 3, 9);
        tell("from 10 on", graves(9, 9, 10) + "missed 0;", 10, 0);
        tell("the most lost", graves(5, 5, 5, 5, 5, 5, 5, 5) + "missed 1;", 0, 40);
        tell("on all by missed 99", graves(1, 1, 1, 1, 1, 1, 1, 1) + "missed 99;", 0, 72);
        tell("missed 9 and grave 1: like ones", graves(1) + "missed 9;", 0, 9);
        tell("missed 8 and grave 1", graves(1) + "missed 8;", 2, 8);
        tell("missed 10 and grave 1", graves(1) + "missed 10;", 0, 9);
    }

    private static void tellLikeOnes() {
        tell("the least of like ones, all are", graves(10, 10), 0, 0);
        tell("the least of like ones between", graves(1, 8) + "missed 1;", 2, 1 + 2);
        tell("the least of like ones, none told on", graves(3) + "missed 0;", 4, 0);
        tell("grave 0 and 10", graves(0, 10), 1, 0);
    }

    private static void children(String what, String text, int groups, int... row) {
        DearLetters mail = told(text);
        due("children, " + what, mail.children(NONE), groups);
        for (int letter = 0; letter < row.length; letter++) {
            due("children, " + what + " " + letter, mail.children(letter), row[letter]);
        }
        due("children, " + what + " behind the last", mail.children(row.length), NONE);
        due("children, " + what + " below NONE", mail.children(-2), NONE);
    }

    private static void childrenOfNone() {
        due("a new object", new DearLetters().children(NONE), 0);
        due("a new object", new DearLetters().children(0), NONE);
        children("no letters", "", 0);
        children("one letter", Texts.letters(1), 1, 0);
        children("eight, nothing told", Texts.letters(8), 1, 0, 0, 0, 0, 0, 0, 0, 0);
    }

    private static void childrenOdds() {
        String two = Texts.letters(2);
        for (int odds = 0; odds <= 10; odds++) {
            boolean one = odds >= 5;
            children("odds of " + odds, two + "like a b " + odds + ";", one ? 1 : 2, 0, one ? 0 : 1);
        }
        // 0 of ten takes away all that has the two in one group.
        String three = Texts.letters(3);
        children("9, 9, 0", three + "like a b 9;like b c 9;like a c 0;", 2, 0, 0, 1);
        children("9, 9, 1: apart is 9 * 1 * 9, one is 9 * 9 * 1", three + "like a b 9;like b c 9;like a c 1;", 1, 0, 0, 0);
        children("8, 9, 0", three + "like a b 8;like b c 9;like a c 0;", 2, 0, 1, 1);
        children("10, 10, 0: all products are 0", three + "like a b 10;like b c 10;like a c 0;", 1, 0, 0, 0);
        children("the first alone, four together", Texts.letters(5) + "like a b 1;like a c 1;like a d 1;like a e 1;like b c 9;"
                + "like b d 9;like b e 9;like c d 9;like c e 9;like d e 9;", 2, 0, 1, 1, 1, 1);
        children("ten of 10", Texts.letters(5) + Texts.pairs("like", 10, " 10"), 1, 0, 0, 0, 0, 0);
        children("ten of 0", Texts.letters(5) + Texts.pairs("like", 10, " 0"), 5, 0, 1, 2, 3, 4);
    }

    private static void childrenFirstRow() {
        String three = Texts.letters(3);
        children("like ones: the first row is one group", three + "like a b 5;like b c 5;like a c 5;", 1, 0, 0, 0);
        children("not told so: with the first", three + "like a b 1;", 2, 0, 1, 0);
        children("the first row of 9, 9, 0 has the first two in one", three + "like b c 9;like a b 9;like a c 0;", 2,
                0, 0, 1);
    }

    private static void childrenNames() {
        children("a group not told so far has the next number", Texts.letters(4)
                + "like a b 0;like a c 0;like b c 0;like c d 10;like a d 0;", 3, 0, 1, 2, 2);
        children("back to an earlier group", Texts.letters(4) + "like a b 0;like a c 0;like b c 10;like a d 10;", 2,
                0, 1, 1, 0);
    }

    private static final String THREE_TIMES = "letter a age 1 need 0 grave 0;letter b age 2 need 0 grave 0;"
            + "helper x time 9 hand 1 bears 0;helper y time 9 hand 2 bears 0;helper z time 9 hand 3 bears 0;";

    private static void minutesRows() {
        String row = Check.bytes(1, 0, 9);
        for (int rows : new int[] {1, 2, 15, 16}) {
            DearLetters mail = told(THREE_TIMES);
            Check.tape(mail, row.repeat(rows));
            due("see() of " + rows + " rows", mail.see(), rows);
            due("rows", mail.has(10), rows);
            due("refused", mail.status(1), 0);
        }
        for (int bytes : new int[] {0, 1, 2, 4, 5, 7, 46, 47, 49, 50, 51, 1599}) {
            DearLetters mail = told(THREE_TIMES);
            due("one row ahead", Texts.see(mail, 0, 0, 20), 1);
            Check.tape(mail, row.repeat(bytes / 3) + row.substring(0, bytes % 3));
            due("see() of " + bytes + " bytes", mail.see(), NONE);
            due("rows stay", mail.has(10), 1);
            due("refused", mail.status(1), 1);
            due("the tape goes", mail.feed(0, 0, 0, 0, 0), 20);
            due("the fault stays", mail.fault(0), 0);
        }
        DearLetters mail = told(THREE_TIMES);
        Check.tape(mail, row.repeat(16));
        mail.see();
        due("one row instead of 16", Texts.see(mail, 0, 0, 20), 1);
        due("the latest alone count", mail.whose(), 7);
    }

    private static void minutesOfLetters() {
        DearLetters mail = told(Texts.letters(8) + Texts.helpers(1, "time 9 hand 1 bears 1"));
        for (int letter : new int[] {0, 7}) {
            due("see() of letter " + letter, Texts.see(mail, letter, 0, 20), 1);
        }
        for (int letter : new int[] {8, 9, 127, 128, 255}) {
            due("see() of letter " + letter, Texts.see(mail, letter, 0, 20), NONE);
            due("see() of letter " + letter + " behind another", Texts.see(mail, 0, 0, 20, letter, 0, 20), NONE);
        }
        due("refused", mail.status(1), 10);
        DearLetters times = told(Texts.letters(1) + Texts.helpers(1, "time 9 hand 1 bears 1") + "takes 9999;");
        due("the higher byte first", Texts.see(times, 0, 3, 231), 1);
        due("999 minutes", times.whose(), 1);
        due("1000 minutes", Texts.see(times, 0, 3, 232), 1);
        due("nobody takes 1000", times.whose(), 0);
        due("the bytes the other way round", Texts.see(times, 0, 231, 3), 1);
        due("nobody", times.whose(), 0);
        due("0 minutes", Texts.see(times, 0, 0, 0), 1);
        due("nobody takes 0", times.whose(), 0);
        due("65535 minutes", Texts.see(times, 0, 255, 255), 1);
        due("nobody takes so many", times.whose(), 0);
    }

    private static void whoseOnThisDay() {
        DearLetters mail = told(THREE_TIMES + "takes hand+day;");
        Texts.see(mail, 0, 0, 3);
        due("on day 0", mail.whose(), 4);
        mail.evenings(1);
        due("on day 1", mail.whose(), 2);
        mail.evenings(1);
        due("on day 2", mail.whose(), 1);
        mail.evenings(1);
        due("on day 3", mail.whose(), 0);
        mail.undo();
        due("undone", mail.whose(), 1);
    }

    private static void whoseAll() {
        due("a new object", new DearLetters().whose(), 0);
        for (int helpers = 0; helpers <= 3; helpers++) {
            due("none told, " + helpers, told(Texts.letters(1) + Texts.helpers(helpers, "time 9 hand 1 bears 1")).whose(),
                    (1 << helpers) - 1);
        }
        DearLetters mail = told(THREE_TIMES + "takes age*(hand/2)+1;");
        // a: 1, 2, 2; b: 1, 3, 3.
        due("all rows are their times", Texts.see(mail, 0, 0, 2, 1, 0, 3, 0, 0, 2), 3);
        due("two of three", mail.whose(), 6);
        due("one row is not", Texts.see(mail, 0, 0, 2, 1, 0, 3, 0, 0, 1), 3);
        due("none of three", mail.whose(), 0);
        due("the last of 16 is not", Texts.see(mail, 0, 0, 2, 0, 0, 2, 0, 0, 2, 0, 0, 2, 0, 0, 2, 0, 0, 2, 0, 0, 2, 0, 0, 2,
                0, 0, 2, 0, 0, 2, 0, 0, 2, 0, 0, 2, 0, 0, 2, 0, 0, 2, 0, 0, 2, 0, 0, 1), 16);
        due("none of three", mail.whose(), 0);
        DearLetters done = told(THREE_TIMES);
        done.answer(0, 0);
        due("what they bear, have left, have done is all one", done.whose(), 7);
    }

    private static void watched(String what, DearLetters mail, int letter, int most) {
        due("watched(0), " + what, mail.watched(0), letter);
        due("watched(1), " + what, mail.watched(1), most);
        for (int n : new int[] {-1, 2, Texts.LEAST, Texts.MOST}) {
            due("watched(" + n + "), " + what, mail.watched(n), NONE);
        }
    }

    private static void watchedFewest() {
        watched("all like ones", told(THREE_TIMES), 0, 3);
        watched("the first of like letters", told(THREE_TIMES + "takes hand;"), 0, 1);
        // a: 1, 2, 2; b: 1, 3, 4.
        watched("the second", told(THREE_TIMES + "takes 1+(hand/2)*age+(hand/3)*(age-1);"), 1, 1);
        // a: 2, 2, 2; b: 2, 2, 3.
        watched("two of three at the most", told(THREE_TIMES + "takes 2+(hand/3)*(age/2);"), 1, 2);
        watched("the last of eight", told(Texts.letters(7, QUIET) + "letter h age 20 need 0 grave 0;"
                + "helper x time 9 hand 1 bears 0;helper y time 9 hand 2 bears 0;takes 1+hand*age;"), 7, 1);
        // Times above 999 are alike.
        watched("times that are kept below 1000", told(THREE_TIMES + "takes 999+hand;"), 0, 3);
    }

    private static void watchedLeft() {
        // a: 1, 2, 2; b: 5, 5, 6.
        DearLetters mail = told(THREE_TIMES + "takes (2-age)*(1+hand/2)+(age-1)*(5+hand/3);");
        due("a", 100 * mail.takes(0, 0) + 10 * mail.takes(0, 1) + mail.takes(0, 2), 122);
        due("b", 100 * mail.takes(1, 0) + 10 * mail.takes(1, 1) + mail.takes(1, 2), 556);
        watched("of three", mail, 0, 2);
        Texts.see(mail, 0, 0, 2);
        watched("of two that are left", mail, 1, 1);
        Texts.see(mail, 1, 0, 5);
        watched("of two others", mail, 0, 1);
        Texts.see(mail, 0, 0, 1);
        watched("of one", mail, 0, 1);
        Texts.see(mail, 0, 0, 9);
        watched("of none", mail, NONE, NONE);
    }

    private static void watchedWithout() {
        watched("a new object", new DearLetters(), NONE, NONE);
        watched("without letters", told(Texts.helpers(1, "time 9 hand 1 bears 0")), NONE, NONE);
        watched("without helpers", told(Texts.letters(1)), NONE, NONE);
        watched("one and one", told(Texts.letters(1) + Texts.helpers(1, "time 9 hand 1 bears 0")), 0, 1);
    }
}
