/** Each promise of the document by examples worked out by hand: ordinary calls, edges, wrong calls. */
public final class PromisesTest {
    private static final int NONE = -1;
    private static final int MOST = Integer.MAX_VALUE;
    private static final int LEAST = Integer.MIN_VALUE;
    private static final String FAMILY = "letter lisa age 6 need 8 grave 2; letter tom age 9 need 3 grave 0;"
            + "letter kim age 7 need 9 grave 7; gift bike stock 1; gift doll stock 2; wish lisa bike 5;"
            + "wish lisa doll 3; wish tom bike 9; wish kim doll 4; near lisa tom; like lisa kim 8;"
            + "helper ann time 60 hand 7 bears 5; helper ben time 45 hand 2 bears 9;";
    private static final Check check = new Check("PromisesTest");

    public static void main(String[] args) {
        promise1();
        promise2();
        promise3();
        promise4();
        promise5();
        promise6();
        promise7();
        promise8();
        promise9();
        promise10();
        promise11();
        promise12();
        promise13();
        promise14();
        promise15();
        promise16();
        promise17();
        promise18();
        promise19();
        promise20();
        promise21();
        promise22();
        promise23();
        promise24();
        promise25();
        promise26();
        promise27();
        promise28();
        promise29();
        promise30();
        promise31();
        promise32();
        promise33();
        promise34();
        promise35();
        promise36();
        check.finish();
    }

    private static void due(String call, long got, long want) {
        check.due(call, got, want);
    }

    private static void due(String call, boolean got, boolean want) {
        check.due(call, got, want);
    }

    private static DearLetters told(String text) {
        DearLetters mail = new DearLetters();
        due("1, 4: heap \"" + text + "\" has no fault", Check.heap(mail, text) >= 0, true);
        return mail;
    }

    private static void promise1() {
        DearLetters mail = new DearLetters();
        for (int what = 0; what < 12; what++) {
            due("1: has(" + what + ")", mail.has(what), 0);
        }
        due("1: takes", mail.takes(0, 0), NONE);
        due("1: warms", mail.warms(), 0);
        due("1: evenings", mail.evenings(50), 0);
        due("1: day", mail.has(5), 50);
        due("1: NONE", DearLetters.NONE, -1);
        due("1: NOTHING", DearLetters.NOTHING, -1000000000000000L);
    }

    private static void promise2() {
        DearLetters mail = new DearLetters();
        for (int k = 1; k <= 80; k++) {
            due("2: feed " + k, mail.feed(0, 0, 0, 0, 0), 20 * k);
        }
        due("2: feed 81", mail.feed(0, 0, 0, 0, 0), NONE);
        due("2: status", mail.status(0), 1);
        mail.end(1581);
        due("2: feed beyond by one", mail.feed(0, 0, 0, 0, 0), NONE);
        mail.end(1580);
        due("2: feed up to all", mail.feed(0, 0, 0, 0, 0), 1600);
        mail.end(0);
        // "total 1 + 2 * 3 - 4", the highest byte of each number first.
        due("2: feed", mail.feed(0x746f7461, 0x6c203120, 0x2b203220, 0x2a203320, 0x2d203420), 20);
        Check.heap(mail, "");
        mail.feed(0x6c657474, 0x65722061, 0x20616765, 0x2035206e, 0x65656420);
        mail.feed(0x36206772, 0x61766520, 0x373bffff, 0xffffffff, -1);
        mail.end(30);
        due("2: heap of bytes", mail.heap(), 1);
        due("2: age", mail.mail(0, 0), 5);
        due("2: need", mail.mail(0, 1), 6);
        due("2: grave", mail.mail(0, 2), 7);
    }

    private static void promise3() {
        DearLetters mail = new DearLetters();
        due("3: end(0)", mail.end(0), true);
        due("3: end(1)", mail.end(1), false);
        due("3: end(-1)", mail.end(-1), false);
        mail.feed(0, 0, 0, 0, 0);
        due("3: end(21)", mail.end(21), false);
        due("3: end(MOST)", mail.end(MOST), false);
        due("3: end(LEAST)", mail.end(LEAST), false);
        due("3: end(20)", mail.end(20), true);
        due("3: end(7)", mail.end(7), true);
        due("3: end(8)", mail.end(8), false);
        due("3: feed behind 7", mail.feed(0, 0, 0, 0, 0), 27);
        due("3: status", mail.status(0), 6);
    }

    private static void promise4() {
        DearLetters mail = new DearLetters();
        due("4: no text", mail.heap(), 0);
        due("4: family", Check.heap(mail, FAMILY), 13);
        mail.answer(1, 0);
        mail.sheet(0, 1);
        mail.give(0, 0);
        mail.seed(77);
        Check.tape(mail, Check.bytes(0, 0, 20));
        mail.see();
        due("4: fault", Check.heap(mail, "letter"), NONE);
        due("4: the tape goes", mail.end(1), false);
        due("4: all stays, letters", mail.has(0), 3);
        due("4: all stays, answered", mail.has(6), 1);
        due("4: all stays, acts", mail.has(11), 3);
        due("4: all stays, minutes", mail.has(10), 1);
        due("4: family again", Check.heap(mail, FAMILY), 13);
        due("4: the tape goes", mail.end(1), false);
        for (int what = 5; what <= 11; what++) {
            due("4: anew, has(" + what + ")", mail.has(what), what == 9 ? 105 : 0);
        }
        due("4: nothing to undo", mail.undo(), false);
        // The seed stays: with 77 draws go on from 77, not from 1.
        DearLetters other = told("helper h time 1 hand 1 bears 1;cold 50;");
        other.seed(77);
        Check.heap(mail, "helper h time 1 hand 1 bears 1;cold 50;");
        for (int k = 0; k < 20; k++) {
            due("4: seed " + k, mail.chance(1), other.chance(1));
        }
        due("4: a smaller heap", Check.heap(mail, "gift g stock 3;"), 1);
        due("4: no letters now", mail.has(0), 0);
        due("4: no helpers now", mail.has(2), 0);
        due("4: no pairs now", mail.has(3) + mail.has(4), 0);
        due("4: no minutes now", mail.has(9), 0);
    }

    private static void promise5() {
        DearLetters mail = new DearLetters();
        due("5: fault(0) at first", mail.fault(0), 0);
        due("5: fault(1) at first", mail.fault(1), NONE);
        Check.heap(mail, "letter 5");
        due("5: fault(0)", mail.fault(0), 1);
        due("5: fault(1)", mail.fault(1), 7);
        due("5: fault(2)", mail.fault(2), NONE);
        due("5: fault(-1)", mail.fault(-1), NONE);
        mail.see();
        mail.on();
        due("5: see(), on() leave it", mail.fault(1), 7);
        Check.ask(mail, "total 1");
        due("5: fault(0) of ask", mail.fault(0), 0);
        due("5: fault(1) of ask", mail.fault(1), NONE);
        Check.ask(mail, "total ((((((( ");
        due("5: fault(0) of ask", mail.fault(0), 4);
        due("5: fault(1) of ask", mail.fault(1), 12);
        Check.heap(mail, "");
        due("5: fault(0) of heap", mail.fault(0), 0);
    }

    private static void promise6() {
        DearLetters mail = told(FAMILY);
        int[] first = {3, 2, 2, 1, 1, 0, 0, 0, 0, 105, 0, 0};
        for (int what = 0; what < 12; what++) {
            due("6: has(" + what + ")", mail.has(what), first[what]);
        }
        mail.answer(0, 0);
        mail.answer(1, 0);
        mail.sheet(0, 1);
        mail.give(2, 1);
        Check.tape(mail, Check.bytes(0, 0, 20, 1, 0, 20));
        mail.see();
        int[] then = {3, 2, 2, 1, 1, 0, 2, 1, 1, 65, 2, 4};
        for (int what = 0; what < 12; what++) {
            due("6: then has(" + what + ")", mail.has(what), then[what]);
        }
        due("6: has(12)", mail.has(12), NONE);
        due("6: has(-1)", mail.has(-1), NONE);
        due("6: has(MOST)", mail.has(MOST), NONE);
    }

    private static void promise7() {
        DearLetters mail = told("letter az age 1 need 1 grave 1;gift abcxyz stock 1;helper q time 1 hand 1 bears 1;");
        int[][] names = {{1, 26, 0, 0, 0, 0}, {1, 2, 3, 24, 25, 26}, {17, 0, 0, 0, 0, 0}};
        for (int kind = 0; kind < 3; kind++) {
            for (int k = 0; k < 6; k++) {
                due("7: letter(" + kind + ", 0, " + k + ")", mail.letter(kind, 0, k), names[kind][k]);
            }
            due("7: k -1", mail.letter(kind, 0, -1), NONE);
            due("7: k 6", mail.letter(kind, 0, 6), NONE);
            due("7: which 1", mail.letter(kind, 1, 0), NONE);
            due("7: which -1", mail.letter(kind, -1, 0), NONE);
        }
        due("7: kind 3", mail.letter(3, 0, 0), NONE);
        due("7: kind -1", mail.letter(-1, 0, 0), NONE);
        due("7: kind MOST", mail.letter(MOST, MOST, MOST), NONE);
    }

    private static void promise8() {
        DearLetters mail = told(FAMILY);
        int[][] first = {{6, 8, 2, NONE, 0, NONE, 8, 2}, {9, 3, 0, NONE, 0, NONE, 9, 1}, {7, 9, 7, NONE, 0, NONE, 4, 0}};
        for (int letter = 0; letter < 3; letter++) {
            for (int what = 0; what < 8; what++) {
                due("8: mail(" + letter + ", " + what + ")", mail.mail(letter, what), first[letter][what]);
            }
        }
        mail.answer(0, 1);
        mail.sheet(0, 4);
        mail.give(0, 1);
        due("8: answered by", mail.mail(0, 3), 1);
        due("8: sheet", mail.mail(0, 4), 4);
        due("8: gift", mail.mail(0, 5), 1);
        due("8: what 8", mail.mail(0, 8), NONE);
        due("8: what -1", mail.mail(0, -1), NONE);
        due("8: letter 3", mail.mail(3, 0), NONE);
        due("8: letter -1", mail.mail(-1, 0), NONE);
        due("8: letter LEAST", mail.mail(LEAST, MOST), NONE);
        DearLetters last = told(Texts.letters(1, "age 0 need 0 grave 0") + "gift g stock 1;wish a g 9;wish a g 2;");
        due("8: the last wish counts", last.mail(0, 6), 2);
    }

    private static void promise9() {
        DearLetters mail = told(FAMILY);
        due("9: stock", mail.gift(0, 0), 1);
        due("9: stock", mail.gift(1, 0), 2);
        int[][] wishes = {{5, 9, 0}, {3, 0, 4}};
        for (int gift = 0; gift < 2; gift++) {
            for (int letter = 0; letter < 3; letter++) {
                due("9: gift(" + gift + ", 1" + letter + ")", mail.gift(gift, 10 + letter), wishes[gift][letter]);
            }
            due("9: what 13", mail.gift(gift, 13), NONE);
            due("9: what 9", mail.gift(gift, 9), NONE);
            due("9: what 1", mail.gift(gift, 1), NONE);
            due("9: what -1", mail.gift(gift, -1), NONE);
            due("9: what LEAST", mail.gift(gift, LEAST), NONE);
        }
        mail.give(0, 1);
        due("9: one less", mail.gift(1, 0), 1);
        due("9: gift 2", mail.gift(2, 0), NONE);
        due("9: gift -1", mail.gift(-1, 0), NONE);
    }

    private static void promise10() {
        DearLetters mail = told(FAMILY);
        int[][] first = {{60, 7, 5, 60, 0}, {45, 2, 9, 45, 0}};
        for (int helper = 0; helper < 2; helper++) {
            for (int what = 0; what < 5; what++) {
                due("10: helper(" + helper + ", " + what + ")", mail.helper(helper, what), first[helper][what]);
            }
        }
        mail.answer(0, 1);
        mail.answer(2, 1);
        due("10: left", mail.helper(1, 3), 5);
        due("10: minutes as told", mail.helper(1, 0), 45);
        due("10: answered", mail.helper(1, 4), 5);
        due("10: answered by the other", mail.helper(0, 4), 0);
        due("10: what 5", mail.helper(0, 5), NONE);
        due("10: what -1", mail.helper(0, -1), NONE);
        due("10: helper 2", mail.helper(2, 0), NONE);
        due("10: helper -1", mail.helper(-1, 0), NONE);
    }

    private static int takes(String sum) {
        return told("letter a age 10 need 3 grave 7;gift g stock 1;gift i stock 0;wish a g 4;wish a i 9;"
                + "helper h time 9 hand 5 bears 0;takes " + sum + ";").takes(0, 0);
    }

    private static void promise11() {
        due("11: without", told(FAMILY).takes(0, 0), 20);
        due("11: age", takes("age"), 10);
        due("11: need", takes("need"), 3);
        due("11: grave", takes("grave"), 7);
        due("11: hand", takes("hand"), 5);
        due("11: wishes", takes("wishes"), 13);
        due("11: below 1", takes("day"), 1);
        due("11: 1", takes("1"), 1);
        due("11: below 0", takes("0-5"), 1);
        due("11: 999", takes("999"), 999);
        due("11: above 999", takes("1000"), 999);
        due("11: from the left on", takes("100-10-5"), 85);
        due("11: products first", takes("2+3*4"), 14);
        due("11: from the left on", takes("100/7*7"), 98);
        due("11: brackets", takes("(2+3)*4"), 20);
        due("11: min", takes("min(age,need)"), 3);
        due("11: max", takes("max(age,need)"), 10);
        due("11: by 0", takes("50+7/0"), 50);
        due("11: by 0 less", takes("50+(0-7)/0"), 50);
        due("11: whole not above", takes("50+7/2"), 53);
        due("11: whole not above, below 0", takes("50+(0-7)/2"), 46);
        due("11: whole not above, by below 0", takes("50+7/(0-2)"), 46);
        due("11: both below 0", takes("50+(0-7)/(0-2)"), 53);
        due("11: whole", takes("50+(0-8)/2"), 46);
        due("11: above a million", takes("9999*9999-9999*100-100"), 1);
        due("11: above a million", takes("9999*9999-9999*100+0"), 100);
        due("11: above a million, product", takes("9999*9999*9999/9999"), 100);
        due("11: below less a million", takes("(0-9999)*9999+9999*100+500"), 400);
        due("11: sum above a million", takes("9999*100+9999+9999-9999*100"), 100);
        due("11: difference below", takes("0-9999*100-9999-9999+9999*100+500"), 400);
        due("11: no letter", told(FAMILY).takes(3, 0), NONE);
        due("11: no helper", told(FAMILY).takes(0, 2), NONE);
        due("11: below 0", told(FAMILY).takes(-1, 0), NONE);
        due("11: below 0", told(FAMILY).takes(0, -1), NONE);
        DearLetters mail = told(FAMILY + "takes 10+day*3;");
        mail.evenings(2);
        due("11: now", mail.takes(0, 0), 16);
        due("11: one that is answered, too", mail.mail(0, 3) != NONE, true);
    }

    private static void promise12() {
        due("12: without it is hand", told(FAMILY).warmth(0, 0), 7);
        due("12: without it is hand", told(FAMILY).warmth(0, 1), 2);
        DearLetters mail = told(FAMILY + "warm (hand-5)*1000*age*1000;");
        due("12: at the most", mail.warmth(0, 0), 1000000);
        due("12: at the least", mail.warmth(0, 1), -1000000);
        mail = told(FAMILY + "warm 0-age-day;");
        due("12: below 0", mail.warmth(1, 0), -9);
        mail.evenings(3);
        due("12: now", mail.warmth(1, 0), -12);
        due("12: no letter", mail.warmth(3, 0), DearLetters.NOTHING);
        due("12: no letter", mail.warmth(-1, 0), DearLetters.NOTHING);
        due("12: no helper", mail.warmth(0, 2), DearLetters.NOTHING);
        due("12: no helper", mail.warmth(0, -1), DearLetters.NOTHING);
    }

    private static void promise13() {
        DearLetters mail = told(FAMILY);
        due("13: can", mail.can(0, 0), 1);
        due("13: can't bear", mail.can(2, 0), 0);
        due("13: bears", mail.can(2, 1), 1);
        mail.answer(0, 1);
        due("13: answered", mail.can(0, 0), 0);
        mail.answer(1, 1);
        due("13: 5 minutes left", mail.can(2, 1), 0);
        due("13: no letter", mail.can(3, 0), NONE);
        due("13: no letter", mail.can(-1, 0), NONE);
        due("13: no helper", mail.can(0, 2), NONE);
        due("13: no helper", mail.can(0, -1), NONE);
        String one = "letter a age 0 need 0 grave 4;helper h time 30 hand 0 bears ";
        due("13: bears as much", told(one + "4;takes 30;").can(0, 0), 1);
        due("13: bears less", told(one + "3;takes 30;").can(0, 0), 0);
        due("13: a minute too much", told(one + "4;takes 31;").can(0, 0), 0);
    }

    private static void warmest(String what, String text, long warmth, int... row) {
        DearLetters mail = told(text);
        int count = 0;
        for (int letter = 0; letter < row.length; letter++) {
            due("14: " + what + " " + letter, mail.warmest(letter), row[letter]);
            count += row[letter] == NONE ? 0 : 1;
        }
        due("14: " + what + " count", mail.warmest(NONE), count);
        due("15: " + what + " warmth", mail.warms(), warmth);
    }

    private static void promise14() {
        String two = Texts.letters(2, "age 0 need 0 grave 0");
        warmest("nobody", two, 0, NONE, NONE);
        warmest("the first row, nobody ahead", two + "helper h time 20 hand 3 bears 0;", 3, NONE, 0);
        warmest("both", two + "helper h time 40 hand 3 bears 0;", 6, 0, 0);
        warmest("the first of like helpers", two + "helper h time 40 hand 3 bears 0;helper i time 40 hand 3 bears 0;",
                6, 0, 0);
        warmest("the warmer one", two + "helper h time 40 hand 3 bears 0;helper i time 40 hand 4 bears 0;", 8, 1, 1);
        warmest("the warmer one as far as minutes go",
                two + "helper h time 40 hand 3 bears 0;helper i time 39 hand 4 bears 0;", 7, 0, 1);
        warmest("more letters ahead of warmth", two + "helper h time 40 hand 3 bears 0;warm 0-9999*100;", -1999800,
                0, 0);
        warmest("more letters, long ones left",
                "letter a age 9 need 0 grave 0;letter b age 4 need 0 grave 0;letter c age 5 need 0 grave 0;"
                        + "helper h time 9 hand 1 bears 0;takes age;warm age*age;", 41, NONE, 0, 0);
        warmest("the warmer letter", "letter a age 1 need 0 grave 0;letter b age 2 need 0 grave 0;"
                + "helper h time 20 hand 1 bears 0;warm 5-age;", 4, 0, NONE);
        warmest("grave ones by who bears them", "letter a age 1 need 0 grave 5;letter b age 2 need 0 grave 0;"
                + "helper h time 20 hand 1 bears 4;helper i time 20 hand 9 bears 5;", 10, 1, 0);
        warmest("eight letters, three helpers", Texts.letters(8, "age 0 need 0 grave 0")
                + "helper x time 60 hand 1 bears 0;helper y time 60 hand 2 bears 0;helper z time 40 hand 3 bears 0;",
                15, 0, 0, 0, 1, 1, 1, 2, 2);
        DearLetters mail = told(two + "helper h time 40 hand 3 bears 0;");
        mail.answer(0, 0);
        due("14: answered ahead", mail.warmest(0), NONE);
        due("14: not answered", mail.warmest(1), 0);
        due("14: how many", mail.warmest(NONE), 1);
        due("14: no letter", mail.warmest(2), NONE);
        due("14: no letter", mail.warmest(-2), NONE);
        due("14: no letter", mail.warmest(LEAST), NONE);
    }

    private static void promise15() {
        DearLetters mail = told(Texts.letters(8, "age 0 need 0 grave 0")
                + "helper x time 240 hand 3 bears 0;warm 9999*9999;");
        due("15: more than a million together", mail.warms(), 8000000);
        due("15: told by takes of 20", mail.warmest(NONE), 8);
        mail = told(Texts.letters(8, "age 0 need 0 grave 0") + "helper x time 240 hand 3 bears 0;warm (0-9999)*9999;");
        due("15: below 0", mail.warms(), -8000000);
        mail.evenings(1);
        due("15: none left", mail.warms(), 0);
    }

    private static void promise16() {
        DearLetters mail = told(Texts.letters(5, "age 0 need 0 grave 0") + "helper h time 40 hand 3 bears 0;");
        int[] due = {0, 2, 4, 5, 5};
        for (int n = 0; n < due.length; n++) {
            due("16: later(" + n + ")", mail.later(n), due[n]);
        }
        due("16: later(30)", mail.later(30), 5);
        due("16: later(31)", mail.later(31), NONE);
        due("16: later(-1)", mail.later(-1), NONE);
        due("16: nothing changes", mail.has(6) + mail.has(5), 0);
        mail.answer(0, 0);
        due("16: answered ones, too", mail.later(0), 1);
        due("16: with minutes left", mail.later(1), 2);
        due("16: without draws", told(Texts.letters(1, "age 0 need 0 grave 0")
                + "helper h time 40 hand 3 bears 0;cold 100;").later(1), 1);
        day(mail, 990);
        due("16: up to day 999", mail.later(9), 5);
        due("16: beyond day 999", mail.later(10), NONE);
        DearLetters slow = told(Texts.letters(1, "age 0 need 0 grave 0") + "helper h time 40 hand 3 bears 0;takes 50-day;");
        due("16: the day goes on", slow.later(10), 0);
        due("16: the day goes on", slow.later(11), 1);
    }

    private static void day(DearLetters mail, int day) {
        due("35: on() to day " + day, Texts.onDay(mail, day), true);
    }

    private static void promise17() {
        String five = Texts.letters(5, "age 0 need 0 grave 0");
        DearLetters mail = told(five + "helper h time 40 hand 3 bears 0;");
        due("17: three evenings", mail.finished(), 3);
        mail.evenings(1);
        due("17: two more", mail.finished(), 2);
        mail.evenings(2);
        due("17: all are", mail.finished(), 0);
        due("17: none ever", told(five).finished(), NONE);
        due("17: no letters", told("").finished(), 0);
        String slow = Texts.letters(1, "age 0 need 0 grave 0") + "helper h time 1 hand 3 bears 0;takes ";
        due("17: in the last evening", told(slow + "30-day;").finished(), 30);
        due("17: an evening too late", told(slow + "31-day;").finished(), NONE);
        mail = told(slow + "max(1,998-day);");
        day(mail, 990);
        due("17: behind day 998", mail.finished(), 8);
        mail = told(slow + "max(1,1000-day);");
        day(mail, 990);
        due("17: not beyond day 999", mail.finished(), NONE);
        mail = told(slow + "max(1,999-day);");
        day(mail, 990);
        due("17: the evening of day 998", mail.finished(), 9);
        day(mail, 999);
        due("17: no evening on day 999", mail.finished(), NONE);
    }

    private static void sheets(String what, String text, int kinds, int... row) {
        DearLetters mail = told(text);
        due("18: " + what, mail.sheets(NONE), kinds);
        for (int letter = 0; letter < row.length; letter++) {
            due("18: " + what + " " + letter, mail.sheets(letter), row[letter]);
        }
        due("18: " + what + " none such", mail.sheets(row.length), NONE);
        due("18: " + what + " none such", mail.sheets(-2), NONE);
    }

    private static void promise18() {
        sheets("no letters", "", 0);
        String four = Texts.letters(4, "age 0 need 0 grave 0");
        sheets("none near", four, 1, 1, 1, 1, 1);
        sheets("a row of four", four + "near a b;near b c;near c d;", 2, 1, 2, 1, 2);
        sheets("three in a ring", four + "near a b;near b c;near c a;", 3, 1, 2, 3, 1);
        sheets("all near", four + "near a b;near b c;near c a;near a d;near b d;near c d;", 4, 1, 2, 3, 4);
        sheets("not as it seems at first", four + "near a d;near d c;near c b;", 2, 1, 2, 1, 2);
        StringBuilder six = new StringBuilder(Texts.letters(8, "age 0 need 0 grave 0"));
        for (char one = 'c'; one <= 'h'; one++) {
            for (char other = 'c'; other < one; other++) {
                six.append("near ").append(one).append(' ').append(other).append(';');
            }
        }
        sheets("six kinds", six.toString(), 6, 1, 1, 1, 2, 3, 4, 5, 6);
        DearLetters mail = told(four + "near a b;");
        mail.sheet(0, 2);
        due("18: as if none had one", mail.sheets(0), 1);
    }

    private static void shared(String what, DearLetters mail, int together, int... row) {
        due("19: " + what, mail.shared(NONE), together);
        for (int letter = 0; letter < row.length; letter++) {
            due("19: " + what + " " + letter, mail.shared(letter), row[letter]);
        }
        due("19: " + what + " none such", mail.shared(row.length), NONE);
        due("19: " + what + " none such", mail.shared(-2), NONE);
    }

    private static void promise19() {
        shared("no letters", told("gift g stock 3;"), 0);
        String two = "letter a age 0 need 2 grave 0;letter b age 0 need 3 grave 0;";
        shared("no gifts", told(two), 0, NONE, NONE);
        shared("no wishes", told(two + "gift g stock 3;"), 0, NONE, NONE);
        shared("one for the needier", told(two + "gift g stock 1;wish a g 4;wish b g 3;"), 9, NONE, 0);
        shared("one for the other", told(two + "gift g stock 1;wish a g 5;wish b g 3;"), 10, 0, NONE);
        shared("like ones", told(two + "gift g stock 1;wish a g 3;wish b g 2;"), 6, NONE, 0);
        shared("one each", told(two + "gift g stock 3;gift i stock 3;wish a g 3;wish a i 4;wish b g 2;"), 14, 1, 0);
        shared("like gifts", told(two + "gift g stock 3;gift i stock 3;wish a g 3;wish a i 3;"), 6, 0, NONE);
        shared("none left", told(two + "gift g stock 0;wish a g 9;"), 0, NONE, NONE);
        shared("not the best for each", told(two + "gift g stock 1;gift i stock 1;wish a g 9;wish a i 8;wish b g 9;"),
                16 + 27, 1, 0);
        shared("no need", told("letter a age 0 need 0 grave 0;gift g stock 1;wish a g 9;"), 0, NONE);
        shared("the least", told("letter a age 0 need 1 grave 0;gift g stock 1;wish a g 1;"), 1, 0);
        StringBuilder eight = new StringBuilder(Texts.letters(8, "age 0 need 9 grave 0"));
        eight.append("gift w stock 3;gift x stock 3;gift y stock 3;gift z stock 3;");
        for (char letter = 'a'; letter <= 'h'; letter++) {
            eight.append("wish ").append(letter).append(" w 9;wish ").append(letter).append(" z 8;");
        }
        shared("eight letters", told(eight.toString()), 3 * 81 + 3 * 72, NONE, NONE, 0, 0, 0, 3, 3, 3);
        DearLetters mail = told(two + "gift g stock 1;gift i stock 1;wish a g 9;wish a i 8;wish b g 9;");
        mail.give(1, 1);
        shared("one has one", mail, 18, 0, NONE);
        mail.undo();
        mail.give(1, 0);
        shared("one has one, the other is left", mail, 16, 1, NONE);
    }

    private static void tell(String text, int number, int lost) {
        DearLetters mail = told(text);
        due("20: tell(0) of " + text, mail.tell(0), number);
        due("20: tell(1) of " + text, mail.tell(1), lost);
    }

    private static void promise20() {
        tell("", 0, 0);
        tell("missed 99;", 0, 0);
        String one = "letter a age 0 need 0 grave ";
        tell(one + "10;", 0, 0);
        tell(one + "10;missed 0;", 0, 0);
        tell(one + "9;missed 0;", 10, 0);
        tell(one + "9;", 0, 1);
        tell(one + "0;", 1, 0);
        tell(one + "2;", 3, 6);
        tell(one + "2;missed 4;", 0, 8);
        tell(one + "2;missed 5;", 0, 8);
        tell(one + "2;letter b age 0 need 0 grave 7;missed 2;", 3, 7);
        tell(one + "10;letter b age 0 need 0 grave 0;missed 2;", 1, 0);
        due("20: tell(2)", told("").tell(2), NONE);
        due("20: tell(-1)", told("").tell(-1), NONE);
    }

    private static void children(String what, String text, int groups, int... row) {
        DearLetters mail = told(text);
        due("21: " + what, mail.children(NONE), groups);
        for (int letter = 0; letter < row.length; letter++) {
            due("21: " + what + " " + letter, mail.children(letter), row[letter]);
        }
        due("21: " + what + " none such", mail.children(row.length), NONE);
        due("21: " + what + " none such", mail.children(-2), NONE);
    }

    private static void promise21() {
        children("no letters", "", 0);
        String four = Texts.letters(4, "age 0 need 0 grave 0");
        children("none alike", four, 1, 0, 0, 0, 0);
        children("half the odds", four + "like a b 5;", 1, 0, 0, 0, 0);
        children("less odds", four + "like a b 4;", 2, 0, 1, 0, 0);
        children("more odds", four + "like a d 6;", 1, 0, 0, 0, 0);
        children("two are one, one is not", four + "like a b 8;like b c 8;like a c 2;", 1, 0, 0, 0, 0);
        children("one is not", four + "like a b 9;like b c 6;like a c 1;", 2, 0, 0, 1, 0);
        children("it can't be", four + "like a b 10;like b c 10;like a c 0;", 1, 0, 0, 0, 0);
        children("none is", four + "like a b 0;like b c 0;like a c 0;like a d 0;like b d 0;like c d 0;", 4, 0, 1, 2, 3);
        children("others are, the fourth is with the second", four + "like a b 1;like b d 9;like a d 1;like c d 1;", 2,
                0, 1, 0, 1);
    }

    private static void promise22() {
        DearLetters mail = told(FAMILY);
        due("22: no tape", mail.see(), NONE);
        Check.tape(mail, Check.bytes(0, 0, 20));
        due("22: one row", mail.see(), 1);
        due("22: the tape goes", mail.end(1), false);
        Check.tape(mail, Check.bytes(0, 0, 20, 1));
        due("22: no whole rows", mail.see(), NONE);
        due("22: the tape goes", mail.end(1), false);
        Check.tape(mail, Check.bytes(3, 0, 20));
        due("22: no letter", mail.see(), NONE);
        Check.tape(mail, Check.bytes(0, 0, 20, 255, 0, 20));
        due("22: no letter in the second", mail.see(), NONE);
        due("22: all stays", mail.has(10), 1);
        Check.tape(mail, Check.bytes(2, 0, 20).repeat(16));
        due("22: 16 rows", mail.see(), 16);
        due("22: 16 rows", mail.has(10), 16);
        Check.tape(mail, Check.bytes(2, 0, 20).repeat(17));
        due("22: 17 rows", mail.see(), NONE);
        due("22: all stays", mail.has(10), 16);
        due("22: status", mail.status(1), 5);
        Check.tape(mail, Check.bytes(2, 255, 255));
        due("22: minutes of two bytes", mail.see(), 1);
        due("22: the latest rows alone", mail.has(10), 1);
        due("22: they are no act", mail.has(11), 0);
        DearLetters none = new DearLetters();
        Check.tape(none, Check.bytes(0, 0, 20));
        due("22: without letters", none.see(), NONE);
    }

    private static final String TIMES = "letter a age 1 need 0 grave 0;letter b age 2 need 0 grave 0;"
            + "letter c age 9 need 0 grave 0;"
            + "helper h time 9 hand 1 bears 0;helper i time 9 hand 2 bears 0;helper j time 9 hand 3 bears 0;";

    private static int whose(DearLetters mail, int... bytes) {
        Check.tape(mail, Check.bytes(bytes));
        mail.see();
        return mail.whose();
    }

    private static void promise23() {
        // Letter a: 2, 3, 4 minutes, and the day.
        DearLetters mail = told(TIMES + "takes age+hand+day;");
        due("23: none told", mail.whose(), 7);
        due("23: takes", mail.takes(0, 0), 2);
        due("23: the first", whose(mail, 0, 0, 2), 1);
        due("23: the second", whose(mail, 0, 0, 3), 2);
        due("23: none", whose(mail, 0, 0, 200), 0);
        due("23: two bytes", whose(mail, 0, 1, 2), 0);
        due("23: all rows", whose(mail, 0, 0, 2, 0, 0, 3), 0);
        due("23: all rows", whose(mail, 0, 0, 2, 0, 0, 2), 1);
        due("23: rows of two letters", whose(mail, 0, 0, 3, 1, 0, 4), 2);
        due("23: rows of two letters", whose(mail, 0, 0, 3, 1, 0, 5), 0);
        mail.evenings(1);
        due("23: on this day", mail.whose(), 0);
        due("23: on this day", whose(mail, 0, 0, 3), 1);
        Check.heap(mail, TIMES);
        due("23: none told in a new heap", mail.whose(), 7);
        due("23: all take 20", whose(mail, 1, 0, 20), 7);
        due("23: no helpers", told(Texts.letters(2, "age 0 need 0 grave 0")).whose(), 0);
    }

    private static void promise24() {
        due("24: like ones", told(TIMES).watched(0), 0);
        due("24: like ones", told(TIMES).watched(1), 3);
        // a: 1, 1, 1; b: 1, 1, 2; c: 10, 19, 32.
        DearLetters mail = told(TIMES + "takes 1+(age/2)*(hand/3)+(age/9)*9*hand;");
        due("24: a", mail.takes(0, 2), 1);
        due("24: b", mail.takes(1, 2), 2);
        due("24: c", mail.takes(2, 1), 19);
        due("24: watched", mail.watched(0), 2);
        due("24: at the most", mail.watched(1), 1);
        // b alone: 1, 1, 2.
        mail = told(TIMES + "takes 1+(min(age,2)-max(0,age-2))/2*(hand/3);");
        due("24: b", mail.takes(1, 1) * 10 + mail.takes(1, 2), 12);
        due("24: c", mail.takes(2, 1) * 10 + mail.takes(2, 2), 11);
        due("24: the second letter", mail.watched(0), 1);
        due("24: at the most", mail.watched(1), 2);
        // Two of three are left by the minutes of the first letter.
        mail = told(TIMES + "takes 5+min(hand,2)*(3-min(age,3))+hand*(age/9);");
        due("24: a", 100 * mail.takes(0, 0) + 10 * mail.takes(0, 1) + mail.takes(0, 2), 700 + 90 + 9);
        due("24: b", 100 * mail.takes(1, 0) + 10 * mail.takes(1, 1) + mail.takes(1, 2), 600 + 70 + 7);
        due("24: whose", whose(mail, 0, 0, 9), 6);
        due("24: watched", mail.watched(0), 2);
        due("24: at the most", mail.watched(1), 1);
        due("24: one left", whose(mail, 0, 0, 7), 1);
        due("24: like ones", mail.watched(0), 0);
        due("24: one left", mail.watched(1), 1);
        due("24: what 2", mail.watched(2), NONE);
        due("24: what -1", mail.watched(-1), NONE);
        due("24: none left", whose(mail, 0, 0, 8), 0);
        due("24: none left", mail.watched(0), NONE);
        due("24: none left", mail.watched(1), NONE);
        due("24: no helpers", told(Texts.letters(2, "age 0 need 0 grave 0")).watched(0), NONE);
        due("24: no letters", told("helper h time 9 hand 1 bears 0;").watched(1), NONE);
    }

    private static void promise25() {
        DearLetters mail = told(FAMILY + "takes 20+age;");
        due("25: can't bear", mail.answer(2, 0), NONE);
        due("25: its time", mail.answer(0, 0), 26);
        due("25: minutes left", mail.helper(0, 3), 34);
        due("25: answered by", mail.mail(0, 3), 0);
        due("25: once alone", mail.answer(0, 1), NONE);
        due("25: once alone", mail.mail(0, 3), 0);
        due("25: no letter", mail.answer(3, 0), NONE);
        due("25: no letter", mail.answer(-1, 0), NONE);
        due("25: no helper", mail.answer(1, 2), NONE);
        due("25: no helper", mail.answer(1, -1), NONE);
        due("25: status", mail.status(2), 6);
        due("25: no act", mail.has(11), 1);
        due("25: all minutes", mail.answer(1, 0), 29);
        due("25: minutes left", mail.helper(0, 3), 5);
    }

    private static void promise26() {
        DearLetters mail = told(Texts.letters(3, "age 0 need 0 grave 0") + "near a b;");
        due("26: kind 0", mail.sheet(0, 0), false);
        due("26: kind 5", mail.sheet(0, 5), false);
        due("26: kind -1", mail.sheet(0, -1), false);
        due("26: no letter", mail.sheet(3, 1), false);
        due("26: no letter", mail.sheet(-1, 1), false);
        due("26: kind 1", mail.sheet(0, 1), true);
        due("26: it has it", mail.sheet(0, 1), false);
        due("26: one near has it", mail.sheet(1, 1), false);
        due("26: another kind", mail.sheet(1, 4), true);
        due("26: not near", mail.sheet(2, 1), true);
        due("26: near, the other way", mail.sheet(0, 4), false);
        due("26: changed", mail.sheet(0, 3), true);
        due("26: changed", mail.mail(0, 4), 3);
        due("26: free again", mail.sheet(1, 1), true);
        due("26: status", mail.status(2), 8);
        due("26: acts", mail.has(11), 5);
        due("26: with a sheet", mail.has(7), 3);
    }

    private static void promise27() {
        DearLetters mail = told(Texts.letters(4, "age 0 need 0 grave 0") + "gift g stock 2;gift i stock 0;");
        due("27: one left", mail.give(0, 0), 1);
        due("27: it has one", mail.give(0, 0), NONE);
        due("27: none left at all", mail.give(1, 1), NONE);
        due("27: none left then", mail.give(3, 0), 0);
        due("27: none left", mail.give(1, 0), NONE);
        due("27: no letter", mail.give(4, 0), NONE);
        due("27: no letter", mail.give(-1, 0), NONE);
        due("27: no gift", mail.give(1, 2), NONE);
        due("27: no gift", mail.give(1, -1), NONE);
        due("27: its gift", mail.mail(3, 5), 0);
        due("27: status", mail.status(2), 7);
        due("27: acts", mail.has(11), 2);
        due("27: left", mail.gift(0, 0), 0);
    }

    private static void promise28() {
        DearLetters mail = told(Texts.letters(5, "age 0 need 0 grave 0") + "helper h time 40 hand 3 bears 0;cold 100;");
        due("28: 0", mail.evenings(0), NONE);
        due("28: 51", mail.evenings(51), NONE);
        due("28: -1", mail.evenings(-1), NONE);
        due("28: MOST", mail.evenings(MOST), NONE);
        mail.answer(4, 0);
        due("28: minutes left", mail.evenings(1), 1);
        due("28: which", mail.helper(0, 4), 16 + 8);
        due("28: the day", mail.has(5), 1);
        due("28: minutes as told", mail.has(9), 40);
        due("28: the rest", mail.evenings(50), 3);
        due("28: the day", mail.has(5), 51);
        due("28: one act each", mail.has(11), 3);
        due("28: status", mail.status(3), 4);
        day(mail, 997);
        due("28: beyond day 999", mail.evenings(3), NONE);
        due("28: all stays", mail.has(5), 997);
        due("28: up to day 999", mail.evenings(2), 0);
        due("28: the day", mail.has(5), 999);
        due("28: beyond day 999", mail.evenings(1), NONE);
        DearLetters slow = told(Texts.letters(1, "age 0 need 0 grave 0") + "helper h time 40 hand 3 bears 0;takes 50-day;");
        due("28: the day comes behind the answers", slow.evenings(10), 0);
        due("28: then it is time", slow.evenings(1), 1);
    }

    private static void promise29() {
        String heap = Texts.letters(6, "age 0 need 0 grave 0") + "helper h time 20 hand 3 bears 0;helper i time 20 hand 2 bears 0;";
        DearLetters mail = told(heap + "cold 100;");
        due("29: 0", mail.chance(0), NONE);
        due("29: 51", mail.chance(51), NONE);
        due("29: -1", mail.chance(-1), NONE);
        due("29: all have colds", mail.chance(50), 100);
        due("29: none answered", mail.has(6), 0);
        due("29: one act", mail.has(11), 1);
        due("29: the day", mail.has(5), 50);
        due("29: minutes as told", mail.has(9), 40);
        due("29: status", mail.status(3), 3);
        day(mail, 998);
        due("29: beyond day 999", mail.chance(2), NONE);
        due("29: up to day 999", mail.chance(1), 2);
        DearLetters well = told(heap);
        for (int k = 0; k < 10; k++) {
            due("29: without cold", well.chance(50), 0);
        }
        mail = told(heap + "takes 1;cold 100;");
        mail.chance(1);
        due("29: not a minute left", mail.has(6), 0);
        due("29: the last cold counts", told(heap + "cold 100;cold 0;").chance(3), 0);
        draws(heap);
    }

    /** From 1 on x becomes 1103527590, 377401575, 662824084, 1147902781: draws of 18, 99, 26, 80. */
    private static void draws(String heap) {
        DearLetters mail = told(heap + "cold 19;");
        due("29: below cold", mail.chance(1), 1);
        due("29: helper h has a cold", mail.helper(0, 4), 0);
        due("29: helper i has none", mail.helper(1, 4), 32);
        due("29: draws go on", mail.chance(1), 0);
        due("29: helper h is well", mail.helper(0, 4), 8);
        due("29: not below cold", told(heap + "cold 18;").chance(1), 0);
        due("29: two evenings", told(heap + "cold 27;").chance(2), 2);
        due("29: two evenings", told(heap + "cold 81;").chance(2), 3);
    }

    private static void promise30() {
        DearLetters mail = told(Texts.letters(3, "age 0 need 0 grave 0") + "gift g stock 1;helper h time 30 hand 1 bears 0;cold 50;");
        due("30: none", mail.undo(), false);
        due("30: status", mail.status(4), 1);
        String first = Check.image(mail);
        mail.answer(0, 0);
        String second = Check.image(mail);
        mail.sheet(0, 1);
        mail.give(2, 0);
        mail.evenings(3);
        String fifth = Check.image(mail);
        int colds = mail.chance(5);
        mail.undo();
        due("30: chance is undone", Check.image(mail).equals(fifth), true);
        DearLetters other = told("helper h time 30 hand 1 bears 0;cold 50;");
        due("30: colds", other.chance(5), colds);
        due("30: the seed stays", mail.chance(40), other.chance(40));
        mail.undo();
        mail.undo();
        due("30: the evenings are undone", mail.has(5), 0);
        due("30: minutes left", mail.has(9), 10);
        mail.undo();
        due("30: the gift is back", mail.gift(0, 0), 1);
        mail.undo();
        due("30: the sheet is back", Check.image(mail).equals(second), true);
        due("30: the answer is undone", mail.undo(), true);
        due("30: all as at first", Check.image(mail).equals(first), true);
        due("30: no more", mail.undo(), false);
        for (int k = 0; k < 25; k++) {
            mail.evenings(1);
        }
        due("30: 20 at the most", mail.has(11), 20);
        for (int k = 0; k < 20; k++) {
            due("30: undo " + k, mail.undo(), true);
        }
        due("30: no more than 20", mail.undo(), false);
        due("30: five stay", mail.has(5), 5);
        due("30: status", mail.status(4), 3);
    }

    private static void promise31() {
        String heap = "helper h time 20 hand 3 bears 0;cold 50;";
        DearLetters mail = told(heap);
        due("31: -1", mail.seed(-1), false);
        due("31: LEAST", mail.seed(LEAST), false);
        due("31: status", mail.status(5), 2);
        DearLetters one = told(heap);
        due("31: 1", one.seed(1), true);
        due("31: 0", told(heap).seed(0), true);
        due("31: MOST", told(heap).seed(MOST), true);
        for (int k = 0; k < 30; k++) {
            due("31: it is 1 at first", mail.chance(1), one.chance(1));
        }
        // 2147483647: x becomes (-1103515245 + 12345) mod 2147483648 = 1043980748; by 64 it is 16312199.
        DearLetters most = told("helper h time 20 hand 3 bears 0;cold 99;");
        most.seed(MOST);
        due("31: a draw of 99", most.chance(1), 0);
        // 0: x becomes 12345; by 64 it is 192; of 100 it is 92.
        DearLetters zero = told("helper h time 20 hand 3 bears 0;cold 92;");
        zero.seed(0);
        due("31: a draw of 92", zero.chance(1), 0);
        zero = told("helper h time 20 hand 3 bears 0;cold 93;");
        zero.seed(0);
        due("31: a draw of 92 below 93", zero.chance(1), 1);
        due("31: no act", zero.has(11), 1);
    }

    private static void promise32() {
        DearLetters mail = told(FAMILY);
        mail.answer(1, 1);
        mail.sheet(0, 3);
        mail.give(2, 1);
        ask(mail, "total number", 3);
        ask(mail, "total age", 22);
        ask(mail, "total need", 20);
        ask(mail, "total grave", 9);
        ask(mail, "total wishes", 21);
        ask(mail, "total day+1", 3);
        ask(mail, "total sheet", 3);
        ask(mail, "total done", 2);
        ask(mail, "total gift", 2);
        ask(mail, "total wish 0", 14);
        ask(mail, "total wish 1", 7);
        ask(mail, "total wish 2", 0);
        ask(mail, "total wish (0-1)", 0);
        ask(mail, "total wish 9999", 0);
        ask(mail, "total wish number", 5);
        ask(mail, "total wish 1*10", 70);
        ask(mail, "most age", 9);
        ask(mail, "least age", 6);
        ask(mail, "least 0-age", -9);
        ask(mail, "most 0-age", -6);
        ask(mail, "total 9999*9999", 3000000);
        ask(mail, "first age>6", 1);
        ask(mail, "last age>6", 2);
        ask(mail, "often age>6", 2);
        ask(mail, "first all", 0);
        ask(mail, "last all", 2);
        ask(mail, "often all", 3);
        ask(mail, "first not all", NONE);
        ask(mail, "last not all", NONE);
        ask(mail, "often not all", 0);
        ask(mail, "often age=6 or age=7", 2);
        ask(mail, "often age=6 or all and not all", 1);
        ask(mail, "often [age=6 or all] and not all", 0);
        ask(mail, "often not age=6 and all", 2);
        ask(mail, "often age<7", 1);
        ask(mail, "often age<6", 0);
        ask(mail, "often age=6+1-1", 1);
        ask(mail, "often min(age,need)=max(grave,1)", 1);
        ask(mail, "often done=0", 2);
        due("32: NOTHING with a fault", Check.ask(mail, "total"), DearLetters.NOTHING);
        due("32: the tape goes", mail.end(1), false);
        due("32: it is not refused", mail.status(1), 0);
        mail.evenings(2);
        ask(mail, "most day", 2);
        DearLetters none = new DearLetters();
        ask(none, "first all", NONE);
        ask(none, "last all", NONE);
        ask(none, "often all", 0);
        ask(none, "total 5", 0);
        ask(none, "most 5", 0);
        ask(none, "least 5", 0);
    }

    private static void ask(DearLetters mail, String text, long want) {
        due("32: ask \"" + text + "\"", Check.ask(mail, text), want);
        due("32: ask \"" + text + "\" fault(0)", mail.fault(0), 0);
    }

    private static void promise33() {
        due("33: without a heap", new DearLetters().image(), 3);
        DearLetters mail = told(FAMILY);
        mail.answer(1, 1);
        mail.sheet(0, 3);
        mail.give(2, 1);
        int[] bytes = {0, 0, 60, 25, 1, 1, 0, 3, 0, 2, 0, 0, 0, 0, 2};
        due("33: image", mail.image(), 16);
        int c = 89;
        for (int k = 0; k < bytes.length; k++) {
            due("33: byte " + k, mail.octet(k), bytes[k]);
            c = (3 * c + bytes[k]) % 251;
        }
        due("33: the last byte", mail.octet(15), c);
        due("33: behind it", mail.octet(16), NONE);
        day(mail, 999);
        mail.image();
        due("33: the day's higher byte", mail.octet(0), 3);
        due("33: the day's lower byte", mail.octet(1), 231);
        DearLetters most = told(Texts.letters(8, "age 0 need 0 grave 0") + "gift p stock 1;gift q stock 1;gift r stock 1;"
                + "gift s stock 1;helper t time 240 hand 1 bears 0;helper u time 9 hand 1 bears 0;"
                + "helper v time 9 hand 1 bears 0;");
        due("33: the most", most.image(), 34);
        due("33: 240", most.octet(2), 240);
    }

    private static void promise34() {
        DearLetters mail = new DearLetters();
        due("34: ahead of image()", mail.octet(0), NONE);
        mail.image();
        due("34: octet(0)", mail.octet(0), 0);
        due("34: octet(2)", mail.octet(2), 48);
        due("34: octet(3)", mail.octet(3), NONE);
        due("34: octet(-1)", mail.octet(-1), NONE);
        due("34: octet(MOST)", mail.octet(MOST), NONE);
        due("34: octet(LEAST)", mail.octet(LEAST), NONE);
        mail.evenings(7);
        due("34: the latest image", mail.octet(1), 0);
        mail.image();
        due("34: the latest image", mail.octet(1), 7);
    }

    private static void promise35() {
        DearLetters mail = told(FAMILY);
        mail.answer(1, 1);
        mail.sheet(0, 3);
        mail.give(2, 1);
        mail.evenings(2);
        Check.tape(mail, Check.bytes(0, 0, 20));
        mail.see();
        String image = Check.image(mail);
        DearLetters other = told(FAMILY);
        other.sheet(1, 1);
        Check.tape(other, image);
        due("35: on()", other.on(), true);
        due("35: as it tells", Check.image(other).equals(image), true);
        due("35: nothing to undo", other.has(11), 0);
        due("35: the tape goes", other.end(1), false);
        int[] good = {3, 231, 60, 45, 1, 2, 2, 1, 2, 1, 2, 1, 0, 4, 0};
        due("35: the most of all", Texts.on(other, good), true);
        due("35: the day", other.has(5), 999);
        due("35: answered", other.has(6), 2);
        due("35: stock need not go with gifts", other.gift(0, 0), 1);
        int[][] wrong = {{1, 232}, {2, 61}, {3, 46}, {4, 2}, {5, 3}, {6, 3}, {7, 5}, {8, 3}, {12, 3}, {13, 5}, {14, 3},
            {0, 4}, {7, 2}, {10, 1}};
        mail.undo();
        String before = Check.image(mail);
        for (int[] each : wrong) {
            int[] bytes = good.clone();
            bytes[each[0]] = each[1];
            due("35: byte " + each[0] + " is " + each[1], Texts.on(mail, bytes), false);
        }
        due("35: all stays", Check.image(mail).equals(before), true);
        due("35: acts stay", mail.has(11), 3);
        due("35: status", mail.status(5), wrong.length);
        Check.tape(mail, image.substring(0, image.length() - 1));
        due("35: too short", mail.on(), false);
        due("35: the tape goes", mail.end(1), false);
        Check.tape(mail, image + " ");
        due("35: too long", mail.on(), false);
        Check.tape(mail, image.substring(0, image.length() - 1) + (char) (image.charAt(image.length() - 1) ^ 1));
        due("35: not the last byte", mail.on(), false);
        mail.end(0);
        due("35: no tape", mail.on(), false);
        int[] bare = {0, 0, 0, 0, 0, 0, 0, 0, 0, 0, 0, 0, 0, 0, 0};
        due("35: none of all", Texts.on(mail, bare), true);
        due("35: none left", mail.has(9), 0);
        due("35: minutes that were seen stay", mail.has(10), 1);
        due("35: those not near may have one kind", Texts.on(mail, 0, 0, 0, 0, 0, 0, 0, 1, 0, 0, 2, 0, 0, 1, 0), true);
    }

    private static void promise36() {
        DearLetters mail = new DearLetters();
        for (int what = 0; what < 6; what++) {
            due("36: at first " + what, mail.status(what), 0);
        }
        mail.end(1);
        mail.end(-1);
        Check.heap(mail, "x");
        mail.see();
        mail.see();
        mail.answer(0, 0);
        mail.sheet(0, 0);
        mail.give(0, 0);
        mail.give(0, 0);
        mail.evenings(0);
        mail.chance(0);
        mail.evenings(0);
        mail.chance(0);
        mail.evenings(51);
        mail.undo();
        mail.seed(-1);
        mail.on();
        Check.ask(mail, "x");
        int[] due = {2, 3, 4, 5, 1, 2};
        for (int what = 0; what < 6; what++) {
            due("36: status(" + what + ")", mail.status(what), due[what]);
        }
        Check.heap(mail, "");
        due("36: a new heap leaves them", mail.status(3), 5);
        due("36: status(6)", mail.status(6), NONE);
        due("36: status(-1)", mail.status(-1), NONE);
    }
}
