/** Texts with their first fault and its place, and texts without one: promises 4, 5 and 32. */
public final class FaultsTest {
    private static final String A = "letter a age 1 need 1 grave 1;";
    private static final String AB = A + "letter b age 1 need 1 grave 1;";
    private static final Check check = new Check("FaultsTest");

    public static void main(String[] args) {
        goodHeaps();
        textFaults();
        glued();
        numberFaults();
        nameFaults();
        openFaults();
        manyFaults();
        firstFault();
        goodQuestions();
        questionFaults();
        questionOpen();
        check.finish();
    }

    private static void heap(String text, int what, int place) {
        DearLetters mail = new DearLetters();
        int got = Check.heap(mail, text);
        check.due("heap \"" + text + "\" faults", got == -1, what != 0);
        check.due("heap \"" + text + "\" fault(0)", mail.fault(0), what);
        check.due("heap \"" + text + "\" fault(1)", mail.fault(1), place);
        check.due("heap \"" + text + "\" status(1)", mail.status(1), what == 0 ? 0 : 1);
    }

    private static void good(String text, int statements) {
        DearLetters mail = new DearLetters();
        check.due("heap \"" + text + "\"", Check.heap(mail, text), statements);
        check.due("heap \"" + text + "\" fault(0)", mail.fault(0), 0);
        check.due("heap \"" + text + "\" fault(1)", mail.fault(1), -1);
    }

    private static void ask(String text, int what, int place) {
        DearLetters mail = new DearLetters();
        Check.heap(mail, AB + "gift g stock 1;");
        long got = Check.ask(mail, text);
        check.due("ask \"" + text + "\" faults", got == DearLetters.NOTHING, what != 0);
        check.due("ask \"" + text + "\" fault(0)", mail.fault(0), what);
        check.due("ask \"" + text + "\" fault(1)", mail.fault(1), place);
    }

    private static void good(String text) {
        ask(text, 0, -1);
    }

    private static void goodHeaps() {
        good("", 0);
        good(" \n ", 0);
        good("letter first age 20 need 9 grave 10;", 1);
        good("\nletter\nabcdef\nage\n0020\nneed 0 grave 0 ; ", 1);
        good("gift total stock 0;gift g stock 3;", 2);
        good("helper h time 1 hand 0 bears 0;helper i time 240 hand 9 bears 10;", 2);
        good("missed 0;missed 99;cold 0;cold 100;", 4);
        good("takes 9999;warm day;", 2);
        good("takes((((((1))))))+min(max(age,need),hand);", 1);
        good("takes min(1,min(1,min(1,min(1,min(1,min(1,2))))));", 1);
        good("takes (1)+(2)*(3)-(4)/(5)+(6)+(7)+(8);", 1);
        good(AB + "near a b;like b a 0;", 4);
        good(AB + "gift g stock 1;wish a g 1;wish a g 9;wish b g 5;", 6);
        good("missed 1;".repeat(80), 80);
        good("missed 1;".repeat(80) + " \n", 80);
    }

    private static void textFaults() {
        heap(";", 1, 0);
        heap("  ;", 1, 2);
        heap("let", 1, 0);
        heap(" lettera a", 1, 1);
        heap("letters a", 1, 0);
        heap("age a", 1, 0);
        heap("Letter a", 1, 0);
        heap("first all;", 1, 0);
        heap("5", 1, 0);
        heap("letter", 1, 6);
        heap("letter ", 1, 7);
        heap("letter 5", 1, 7);
        heap("letter A", 1, 7);
        heap("letter max", 1, 7);
        heap("letter helper", 1, 7);
        heap("letter abcdefg", 1, 13);
        heap("letter abcdefghi", 1, 13);
        heap("letter letters", 1, 13);
        heap("letter abcdef", 1, 13);
        heap("letter aB", 1, 8);
        heap("letter a ag", 1, 9);
        heap("letter a ages 5", 1, 9);
        heap("letter a need 5", 1, 9);
        heap("letter a age", 1, 12);
        heap("letter a age x", 1, 13);
        heap("letter a age -1", 1, 13);
        heap("letter a age 12345", 1, 17);
        heap("letter a age 000001", 1, 17);
        heap("letter a age 1 need 1 grave 1", 1, 29);
        heap("letter a age 1 need 1 grave 1 ", 1, 30);
        heap("letter a age 1 need 1 grave 1.", 1, 29);
        heap("letter a age 1 need 1 grave 1 2", 1, 30);
        heap("letter a age 1 need 1 grave 1;;", 1, 30);
        heap("letter\ta", 1, 6);
        heap("letter " + (char) 233, 1, 7);
        heap("letter a\r", 1, 8);
        heap("missed;", 1, 6);
        heap("cold x;", 1, 5);
        heap("takes;", 1, 5);
        heap("takes 12345;", 1, 10);
        heap("takes 1+;", 1, 8);
        heap("takes +1;", 1, 6);
        heap("takes 1 1;", 1, 8);
        heap("takes 1);", 1, 7);
        heap("takes (1;", 1, 8);
        heap("takes (1", 1, 8);
        heap("takes ();", 1, 7);
        heap("takes min 1;", 1, 10);
        heap("takes min(1);", 1, 11);
        heap("takes min(1,2;", 1, 13);
        heap("takes max(1,2,3);", 1, 13);
        heap("takes number;", 1, 6);
        heap("takes sheet;", 1, 6);
        heap("takes wish 1;", 1, 6);
        heap("takes gift;", 1, 6);
        heap("takes a;", 1, 6);
        heap("takes abcdefgh;", 1, 6);
        heap("takes 1<2;", 1, 7);
        heap("takes [1];", 1, 6);
        heap(A + "wish a 5", 1, 37);
        heap(A + "wish need g", 1, 35);
        heap(A + "near a", 1, 36);
        heap(A + "near a;", 1, 36);
        heap(A + "near a abcdefg", 1, 43);
    }

    private static void glued() {
        heap("letter a age5", 1, 12);
        heap("letter a1 age 5", 1, 8);
        heap("letter a age 5need 1", 1, 14);
        heap("takes10;", 1, 5);
        heap("takes 10age;", 1, 8);
        heap("missed3;", 1, 6);
        heap(AB + "like a b5;", 1, 68);
        ask("total5", 1, 5);
        ask("total wish1", 1, 10);
        ask("often age=5or age=6", 1, 11);
        ask("often age=5 or6=6", 1, 14);
        ask("often not5=5", 1, 9);
        good("often[all]");
        good("total(1)");
    }

    private static void numberFaults() {
        heap("letter a age 21", 2, 13);
        heap("letter a age 9999 need 1", 2, 13);
        heap("letter a age 20 need 10", 2, 21);
        heap("letter a age 20 need 9 grave 11", 2, 29);
        heap("gift g stock 4", 2, 13);
        heap("helper h time 0", 2, 14);
        heap("helper h time 241", 2, 14);
        heap("helper h time 240 hand 10", 2, 23);
        heap("helper h time 240 hand 9 bears 11", 2, 31);
        heap(A + "gift g stock 1;wish a g 0", 2, 54);
        heap(A + "gift g stock 1;wish a g 10", 2, 54);
        heap(AB + "like a b 11", 2, 69);
        heap("missed 100;", 2, 7);
        heap("cold 101;", 2, 5);
    }

    private static void nameFaults() {
        heap(A + "letter a age", 3, 37);
        heap(A + "gift a", 3, 35);
        heap(A + "helper a", 3, 37);
        heap("gift g stock 1;helper g", 3, 22);
        heap("helper h time 1 hand 1 bears 1;letter h", 3, 38);
        heap("wish x", 3, 5);
        heap("wish x?", 3, 5);
        heap("gift g stock 1;wish g g 1", 3, 20);
        heap(A + "wish a a 1", 3, 37);
        heap(A + "wish a g 1;gift g stock 1;", 3, 37);
        heap("helper h time 1 hand 1 bears 1;near h h", 3, 36);
        heap(A + "near a a", 3, 37);
        heap(A + "near a x", 3, 37);
        heap(AB + "near a b;near a b;", 3, 76);
        heap(AB + "near a b;near b a;", 3, 76);
        heap(A + "like a a 5", 3, 37);
        heap(AB + "like a b 5;like b a 5;", 3, 78);
        heap(AB + "like a b 5;like a b 6;", 3, 78);
    }

    private static void openFaults() {
        heap("takes (((((((1)))))));", 4, 12);
        heap("takes ((((((1))))))+(((((((1)))))));", 4, 26);
        heap("takes ((((((1+min (1,2)))))));", 4, 18);
        heap("takes min(1,min(1,min(1,min(1,min(1,min(1,min(", 4, 45);
        heap("takes min(min(min(min(min(min(min(1,1),1),1),1),1),1),1);", 4, 33);
        heap("takes max(1,max(max(1,max(max(1,max(max(1,1),1)),1)),1));", 4, 39);
        good("takes max(1,max(max(1,max(max(1,max(1,1)),1)),1));", 1);
        heap("takes (((((( (", 4, 13);
        heap("warm 1+((((((2*(", 4, 15);
    }

    private static void manyFaults() {
        good(Texts.letters(8), 8);
        heap(Texts.letters(8) + " letter i age 1 need 1 grave 1;", 5, 241);
        heap(Texts.letters(8) + "letter", 5, 240);
        heap(Texts.letters(8) + "letter5", 5, 240);
        String gifts = "gift p stock 1;gift q stock 1;gift r stock 1;gift s stock 1;";
        good(gifts, 4);
        heap(gifts + "gift t stock 1;", 5, 60);
        String helpers = "helper p time 1 hand 1 bears 1;helper q time 1 hand 1 bears 1;helper r time 1 hand 1 bears 1;";
        good(helpers, 3);
        heap(helpers + "helper", 5, 93);
        String near = Texts.letters(8) + Texts.pairs("near", 20, "");
        good(near, 28);
        heap(near + "near", 5, near.length());
        String like = Texts.letters(8) + Texts.pairs("like", 10, " 5");
        good(like, 18);
        heap(like + "like h a 5;", 5, like.length());
        heap("takes 1;takes", 5, 8);
        heap("warm 1;warm 2;", 5, 7);
        good("takes 1;warm 1;", 2);
        heap("missed 1;".repeat(80) + " ?", 5, 721);
        heap("missed 1;".repeat(80) + "missed 1;", 5, 720);
        heap("missed 1;".repeat(80) + ";", 5, 720);
        heap("missed 1;".repeat(80) + (char) 200, 5, 720);
    }

    private static void firstFault() {
        heap("letter a age 21 need 10 grave ?", 2, 13);
        heap("near x y", 3, 5);
        heap("missed 5;near x y; takes ((((((((", 3, 14);
        heap("takes (((((((;?", 4, 12);
    }

    private static void goodQuestions() {
        good("first all");
        good("last not all");
        good("often age=1 or need<2 and grave>3");
        good("often [all or not all] and not [all and age > 3]");
        good("often (age)=(1)");
        good("total number+age+need+grave+wishes+day+sheet+done+gift");
        good("most wish 0+wish wish number-wish(1+2)");
        good("least\nmin(max(1,2),3)");
        good("total ((((((1))))))");
        good("often not not not not not not all");
        good("total wish wish wish wish wish wish 1");
        good("often [[[[[[all]]]]]]");
        good("often [[not (wish (1))=1]]");
        ask("often [[[not (wish (1))=1]]]", 4, 19);
        good("often not not all or not not not not not not all");
        good("total wish 1+wish 2+wish 3+wish 4+wish 5+wish 6+wish 7");
    }

    private static void questionFaults() {
        ask("", 1, 0);
        ask("  ", 1, 2);
        ask("age", 1, 0);
        ask("firsts all", 1, 0);
        ask("letter all", 1, 0);
        ask("5", 1, 0);
        ask("first", 1, 5);
        ask("total", 1, 5);
        ask("total all", 1, 6);
        ask("total hand", 1, 6);
        ask("total a", 1, 6);
        ask("total abcdefgh", 1, 6);
        ask("total 12345", 1, 10);
        ask("total 1;", 1, 7);
        ask("total 1 or 2", 1, 8);
        ask("total 1=1", 1, 7);
        ask("total 1 2", 1, 8);
        ask("first 1", 1, 7);
        ask("first 1+", 1, 8);
        ask("first 1=", 1, 8);
        ask("first 1=1=1", 1, 9);
        ask("first (1=1)", 1, 8);
        ask("first [1]", 1, 8);
        ask("first [all", 1, 10);
        ask("first [all)", 1, 10);
        ask("first all]", 1, 9);
        ask("first all all", 1, 10);
        ask("first all=1", 1, 9);
        ask("first not", 1, 9);
        ask("first or", 1, 6);
        ask("first all or", 1, 12);
        ask("first all and and", 1, 14);
        ask("first 1==1", 1, 8);
        ask("first 1=not all", 1, 8);
        ask("total wish", 1, 10);
        ask("total wish all", 1, 11);
        ask("total min(1)", 1, 11);
        ask("total max", 1, 9);
        ask("total TOTAL", 1, 6);
        ask("total 1 \t", 1, 8);
    }

    private static void questionOpen() {
        ask("total (((((((1)))))))", 4, 12);
        ask("often not not not not not not not all", 4, 30);
        ask("total wish wish wish wish wish wish wish 1", 4, 36);
        ask("often [[[[[[[all]]]]]]]", 4, 12);
        ask("often not [not [not (wish 1)=1]]", 4, 21);
        ask("often not [not [not wish (1)=1]]", 4, 25);
        ask("often [[[[[[not all]]]]]]", 4, 12);
        ask("often [[[[[[wish 1=1]]]]]]", 4, 12);
        ask("often [[[[[[min(1,2)=1]]]]]]", 4, 15);
        ask("often [[[[[[min 1", 1, 16);
        ask("total ((((((1))))))+(((((((1)))))))", 4, 26);
        good("often [[[[[not all]]]]] and [[[[[[all]]]]]]");
        good("often not not not not not not all and not not not not not not all");
        good("total wish wish wish wish wish (1)+wish (wish (wish (1)))");
    }
}
