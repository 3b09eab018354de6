/** Calls with any arguments, on any tape, in any state: each ends with an answer, none throws. */
public final class AnyCallTest {
    private static final int RUNS = 300;
    private static final int CALLS = 512;
    private static final int[] EDGES = {Integer.MIN_VALUE, Integer.MIN_VALUE + 1, -2, -1, 0, 1, 2, 3, 4, 5, 6, 7, 8, 9, 10,
        11, 12, 17, 18, 20, 30, 31, 50, 51, 1600, Integer.MAX_VALUE - 1, Integer.MAX_VALUE};
    private static final String FULL = full();
    private static final Check check = new Check("AnyCallTest");

    public static void main(String[] args) {
        for (int run = 0; run < RUNS; run++) {
            check.seedDraws(run);
            DearLetters mail = new DearLetters();
            if (run % 2 == 0) {
                check.due("the full heap", Check.heap(mail, FULL), 59);
            }
            long sum = 0;
            for (int k = 0; k < CALLS; k++) {
                sum += call(mail, check.draw(40));
            }
            check.due("acts", mail.has(11) >= 0 && mail.has(11) <= 20, true);
            check.due("day " + sum, mail.has(5) >= 0 && mail.has(5) <= 999, true);
        }
        longSums();
        check.finish();
    }

    private static String full() {
        StringBuilder all = new StringBuilder();
        for (char k = 'a'; k <= 'h'; k++) {
            all.append("letter ").append(k).append(" age 5 need 4 grave ").append((char) ('0' + (k - 'a') % 4)).append(';');
        }
        for (char k = 'i'; k <= 'l'; k++) {
            all.append("gift ").append(k).append(" stock 3;wish a ").append(k).append(" 5;wish h ").append(k).append(" 5;");
        }
        for (char k = 'm'; k <= 'o'; k++) {
            all.append("helper ").append(k).append(" time 70 hand 3 bears 3;");
        }
        int nears = 20;
        int likes = 10;
        for (char one = 'a'; one <= 'h'; one++) {
            for (char other = 'a'; other < one; other++) {
                all.append(nears-- > 0 ? "near " + one + ' ' + other + ';' : "");
                all.append(likes-- > 0 ? "like " + one + ' ' + other + " 5;" : "");
            }
        }
        return all.append("takes 20+grave-day;warm hand*day;missed 5;cold 30;missed 6;cold 40;").toString();
    }

    private static int edge() {
        return EDGES[check.draw(EDGES.length)];
    }

    private static long call(DearLetters mail, int which) {
        int a = edge();
        int b = edge();
        switch (which) {
            case 0: return mail.feed(a, b, edge(), edge(), check.draw(Integer.MAX_VALUE));
            case 1: return mail.end(a) ? 1 : 0;
            case 2: return check.draw(20) == 0 ? mail.heap() : 0;
            case 3: return mail.fault(a);
            case 4: return mail.has(a);
            case 5: return mail.letter(a, b, edge());
            case 6: return mail.mail(a, b);
            case 7: return mail.gift(a, b);
            case 8: return mail.helper(a, b);
            case 9: return mail.takes(a, b);
            case 10: return mail.warmth(a, b);
            case 11: return mail.can(a, b);
            case 12: return mail.warmest(a);
            case 13: return mail.warms();
            case 14: return mail.later(a);
            case 15: return mail.finished();
            case 16: return mail.sheets(a);
            case 17: return mail.shared(a);
            case 18: return mail.tell(a);
            case 19: return mail.children(a);
            case 20: return mail.see();
            case 21: return mail.whose();
            case 22: return mail.watched(a);
            case 23: return mail.answer(a, b);
            case 24: return mail.sheet(a, b) ? 1 : 0;
            case 25: return mail.give(a, b);
            case 26: return mail.evenings(a);
            case 27: return mail.chance(a);
            case 28: return mail.undo() ? 1 : 0;
            case 29: return mail.seed(a) ? 1 : 0;
            case 30: return mail.ask();
            case 31: return mail.image();
            case 32: return mail.octet(a);
            case 33: return mail.on() ? 1 : 0;
            case 34: return mail.status(a);
            case 35:
                Check.tape(mail, Check.bytes(check.draw(9), check.draw(4), check.draw(256)).repeat(check.draw(18)));
                return mail.see();
            case 36: return Check.ask(mail, "often [age<5 or not wish 1=2] and min(sheet,done)<gift");
            case 37:
                Check.tape(mail, Check.image(mail));
                return mail.on() ? 1 : 0;
            default: return mail.answer(check.draw(8), check.draw(3));
        }
    }

    /** Sums as long as the tape, flat and as deep as they may be. */
    private static void longSums() {
        DearLetters mail = new DearLetters();
        String one = "letter a age 1 need 1 grave 1;helper h time 1 hand 1 bears 1;";
        String flat = one + "takes 1" + "+1".repeat(763) + ";";
        check.due("a long heap", flat.length() <= 1600, true);
        check.due("a long sum", Check.heap(mail, flat), 3);
        check.due("a long sum's worth", mail.takes(0, 0), 764);
        StringBuilder deep = new StringBuilder("total 1");
        for (int k = 0; k < 15; k++) {
            deep.append("+min(1,2*min(1,2*min(1,2*min(1,2*min(1,2*max(0,1*2+3))))))");
        }
        check.due("a deep sum", Check.ask(mail, deep.toString()), 16);
        String test = "often [all and [all and [all and [all and [all and [1=1 or 2<1]]]]]]";
        check.due("a deep test", Check.ask(mail, test), 1);
        check.due("a tape of one word", Check.heap(mail, "a".repeat(1600)), -1);
        check.due("a tape of one number", Check.ask(mail, "total " + "1".repeat(1594)), DearLetters.NOTHING);
        check.due("a tape of brackets", Check.ask(mail, "total " + "(".repeat(1594)), DearLetters.NOTHING);
        check.due("a tape of nots", Check.ask(mail, "often " + "not ".repeat(398)), DearLetters.NOTHING);
        check.due("a tape of blanks", Check.heap(mail, " ".repeat(1600)), 0);
    }
}
