/** SUM in Terms I, II and IV: the order of its parts, 10 to the 6 either way, division, TIME 1 .. 999, WARMTH. */
public final class SumLimitsTest {
    private static final int MILLION = 1000000;
    private static final String LETTER = "letter a age 20 need 9 grave 10;gift p stock 1;gift q stock 0;wish a p 9;"
            + "wish a q 8;helper x time 240 hand 7 bears 10;helper y time 240 hand 0 bears 10;";
    private static final Check check = new Check("SumLimitsTest");

    public static void main(String[] args) {
        parts();
        fromTheLeft();
        division();
        sums();
        differences();
        products();
        leastAndGreatest();
        times();
        warmths();
        deep();
        check.finish();
    }

    /** A sum as warm and as what is asked; both are the same where the sum asks nothing of a helper. */
    private static void both(String sum, long want) {
        heap(sum, want);
        asked(sum, want);
    }

    private static void heap(String sum, long want) {
        check.due("warm " + sum, Texts.told(check, LETTER + "warm " + sum + ";").warmth(0, 0), want);
    }

    private static void asked(String sum, long want) {
        DearLetters mail = Texts.told(check, LETTER);
        for (String form : new String[] {"total ", "most ", "least "}) {
            check.due(form + sum, Check.ask(mail, form + sum), want);
            check.due(form + sum + " has no fault", mail.fault(0), 0);
        }
        String value = want < 0 ? "0-(" + cut(-want) + ")" : cut(want);
        check.due("often " + sum + " = " + value, Check.ask(mail, "often " + sum + "=" + value), 1);
    }

    /** A number of up to seven digits by numbers of four. */
    private static String cut(long value) {
        return value / 1000 + "*1000+" + value % 1000;
    }

    private static void parts() {
        both("0", 0);
        both("1", 1);
        both("9999", 9999);
        both("0007", 7);
        both("age", 20);
        both("need", 9);
        both("grave", 10);
        both("wishes", 17);
        both("day", 0);
        heap("hand", 7);
        both("(((age)))", 20);
        DearLetters mail = Texts.told(check, LETTER + "warm day;takes day;");
        for (int day : new int[] {1, 255, 256, 998, 999}) {
            Texts.onDay(mail, day);
            check.due("day as warmth", mail.warmth(0, 0), day);
            check.due("day as time", mail.takes(0, 0), day);
            check.due("day asked", Check.ask(mail, "total day"), day);
        }
    }

    private static void fromTheLeft() {
        both("100-10-1", 89);
        both("100-10+1", 91);
        both("100+10-1", 109);
        both("100/10/5", 2);
        both("100/10*5", 50);
        both("7*3/2", 10);
        both("7/2*3", 9);
        both("2+3*4", 14);
        both("2*3+4", 10);
        both("20-12/4", 17);
        both("(2+3)*4", 20);
        both("20/(12/4)", 6);
        both("100-(10-1)", 91);
        both("1-2*3-4*5+6", -19);
    }

    private static void division() {
        both("6/3", 2);
        both("7/3", 2);
        both("8/3", 2);
        both("0/3", 0);
        both("(0-1)/3", -1);
        both("(0-3)/3", -1);
        both("(0-4)/3", -2);
        both("1/(0-3)", -1);
        both("3/(0-3)", -1);
        both("4/(0-3)", -2);
        both("(0-4)/(0-3)", 1);
        both("(0-2)/(0-3)", 0);
        both("0/(0-3)", 0);
        both("5/0", 0);
        both("(0-5)/0", 0);
        both("0/0", 0);
        both("5/0+3", 3);
        both("5/(age-20)*7", 0);
        both("1000*1000/1", MILLION);
        both("1000*1000/(0-1)", -MILLION);
        both("(0-1000*1000)/1", -MILLION);
        both("(0-1000*1000)/(0-1)", MILLION);
        both("(0-1)/(1000*1000)", -1);
        both("1/(1000*1000)", 0);
        both("1000*1000/9999", 100);
        both("(0-1000*1000)/9999", -101);
    }

    private static void sums() {
        both("999*1000+999", MILLION - 1);
        both("999*1000+999+1", MILLION);
        both("999*1000+1000", MILLION);
        both("999*1000+1001", MILLION);
        both("1000*1000+1", MILLION);
        both("1000*1000+1-1", MILLION - 1);
        both("1000*1000+9999-9999", MILLION - 9999);
        both("1000*1000+(1-1)", MILLION);
        both("1000*1000+1000*1000", MILLION);
        both("(0-1000*1000)+(0-1)", -MILLION);
        both("(0-1000*1000)+(0-1000*1000)", -MILLION);
        both("(0-1000*1000)+(0-1)+1", -MILLION + 1);
        both("(0-999*1000)+(0-999)", -MILLION + 1);
        both("(0-999*1000)+(0-1000)", -MILLION);
    }

    private static void differences() {
        both("0-1000*1000", -MILLION);
        both("0-999*1000-999", -MILLION + 1);
        both("0-999*1000-1000", -MILLION);
        both("0-999*1000-1001", -MILLION);
        both("0-1000*1000-1+1", -MILLION + 1);
        both("0-1000*1000-9999+9999", -MILLION + 9999);
        both("1000*1000-(0-1)", MILLION);
        both("1000*1000-(0-1)-1", MILLION - 1);
        both("(0-1000*1000)-1000*1000", -MILLION);
        both("1000*1000-1000*1000", 0);
        both("1000*1000-(0-1000*1000)", MILLION);
    }

    private static void products() {
        both("1000*1000", MILLION);
        both("999*1001", MILLION - 1);
        both("1001*1000", MILLION);
        both("9999*9999", MILLION);
        both("(0-1000)*1000", -MILLION);
        both("(0-999)*1001", -MILLION + 1);
        both("(0-1001)*1000", -MILLION);
        both("1000*(0-1001)", -MILLION);
        both("(0-1001)*(0-1000)", MILLION);
        both("9999*9999/9999", 100);
        both("9999*9999*0", 0);
        // A million times a million is above what an int holds.
        both("(1000*1000)*(1000*1000)", MILLION);
        both("(0-1000*1000)*(1000*1000)", -MILLION);
        both("(0-1000*1000)*(0-1000*1000)", MILLION);
        both("9999*9999*9999*9999/1000", 1000);
    }

    private static void leastAndGreatest() {
        both("min(1,2)", 1);
        both("min(2,1)", 1);
        both("min(2,2)", 2);
        both("max(1,2)", 2);
        both("max(2,1)", 2);
        both("max(2,2)", 2);
        both("min(0-1,0-2)", -2);
        both("max(0-1,0-2)", -1);
        both("min(0-1000*1000,1000*1000)", -MILLION);
        both("max(0-1000*1000,1000*1000)", MILLION);
        both("min(1+1,3*4)-max(5-4,6/3)", 0);
    }

    private static void time(String sum, int want) {
        DearLetters mail = Texts.told(check, LETTER + "takes " + sum + ";");
        check.due("takes " + sum, mail.takes(0, 0), want);
        check.due("takes " + sum + ", can", mail.can(0, 0), want <= 240 ? 1 : 0);
        check.due("takes " + sum + ", answer", mail.answer(0, 0), want <= 240 ? want : Texts.NONE);
        check.due("takes " + sum + ", minutes left", mail.helper(0, 3), want <= 240 ? 240 - want : 240);
    }

    private static void times() {
        time("2", 2);
        time("1", 1);
        time("0", 1);
        time("0-1", 1);
        time("0-999", 1);
        time("0-1000*1000", 1);
        time("239", 239);
        time("240", 240);
        time("241", 241);
        time("998", 998);
        time("999", 999);
        time("1000", 999);
        time("9999", 999);
        time("1000*1000", 999);
        // Only the whole sum is kept within 1 .. 999, not its parts.
        time("2000-1990", 10);
        time("0-10+12", 2);
        time("hand*10", 70);
        check.due("for the other helper", Texts.told(check, LETTER + "takes hand*10;").takes(0, 1), 1);
    }

    private static void warmths() {
        heap("0-1", -1);
        heap("0-hand", -7);
        heap("1000", 1000);
        heap("hand-8", -1);
        heap("1000*1000+hand", MILLION);
        heap("0-1000*1000-hand", -MILLION);
        DearLetters mail = Texts.told(check, LETTER + "warm hand*1000-age;");
        check.due("warmth of x", mail.warmth(0, 0), 6980);
        check.due("warmth of y", mail.warmth(0, 1), -20);
        mail.answer(0, 0);
        check.due("warmth of what is answered", mail.warmth(0, 1), -20);
    }

    /** As many numbers wait at once as six brackets allow. */
    private static void deep() {
        String sum = "1";
        for (int k = 1; k <= 6; k++) {
            sum = (k % 2 == 0 ? "(2+1*" : "max(0,2+1*") + sum + ")";
            both(sum, 1 + 2 * k);
        }
        both("1+2*(1+2*(1+2*(1+2*(1+2*(1+2*(1+2))))))", 255);
        both("1+1*max(1,1+1*max(1,1+1*max(1,1+1*max(1,1+1*max(1,1+1*max(1,1+1))))))", 8);
        heap("100-(hand-(hand-(hand-(hand-(hand-(hand-1))))))", 99);
    }
}
