import java.util.ArrayList;
import java.util.List;

/** Term II and promises 13, 25 to 31, sentence by sentence: who CAN, each ACT, EVENINGS, DRAWS, 20 ACTS to undo. */
public final class ActLimitsTest {
    private static final int NONE = Texts.NONE;
    private static final Check check = new Check("ActLimitsTest");

    public static void main(String[] args) {
        atFirst();
        bearing();
        minutesLeft();
        answeredOnce();
        sheetKinds();
        sheetsNear();
        stockOfGifts();
        oneGiftEach();
        eveningAnswersAheadOfTheDay();
        eveningCounts();
        eveningMinutes();
        lastDay();
        dayByDay();
        colds();
        coldsInOrder();
        coldForAnEvening();
        drawsWithoutCold();
        chanceTakesMinutesLeft();
        seeds();
        drawFormula();
        undoEachAct();
        undoTwenty();
        undoRing();
        undoBehindRefusals();
        undoneByHeapAndImage();
        check.finish();
    }

    private static DearLetters told(String text) {
        return Texts.told(check, text);
    }

    private static void due(String call, long got, long want) {
        check.due(call, got, want);
    }

    private static void due(String call, boolean got, boolean want) {
        check.due(call, got, want);
    }

    private static void atFirst() {
        DearLetters mail = told(Texts.letters(8) + Texts.gifts(4, 3) + Texts.helpers(3, "time 240 hand 9 bears 10"));
        due("day 0 at first", mail.has(5), 0);
        for (int letter = 0; letter < 8; letter++) {
            due("not answered at first", mail.mail(letter, 3), NONE);
            due("no sheet at first", mail.mail(letter, 4), 0);
            due("no gift at first", mail.mail(letter, 5), NONE);
        }
        for (int helper = 0; helper < 3; helper++) {
            due("minutes left as told", mail.helper(helper, 3), 240);
            due("nobody has answered", mail.helper(helper, 4), 0);
        }
        for (int gift = 0; gift < 4; gift++) {
            due("the stock as told", mail.gift(gift, 0), 3);
        }
        due("all minutes left", mail.has(9), 720);
    }

    private static void bearing() {
        for (int grave = 0; grave <= 10; grave++) {
            for (int bears = Math.max(0, grave - 1); bears <= Math.min(10, grave + 1); bears++) {
                String heap = Texts.letters(1, "age 1 need 1 grave " + grave) + Texts.helpers(1, "time 20 hand 1 bears "
                        + bears);
                int can = bears >= grave ? 1 : 0;
                due("bears " + bears + " of " + grave + ", can", told(heap).can(0, 0), can);
                due("bears " + bears + " of " + grave + ", answer", told(heap).answer(0, 0), can == 1 ? 20 : NONE);
                due("bears " + bears + " of " + grave + ", warmest", told(heap).warmest(NONE), can);
                due("bears " + bears + " of " + grave + ", evenings", told(heap).evenings(1), can);
                due("bears " + bears + " of " + grave + ", later", told(heap).later(1), can);
            }
        }
    }

    private static void minutesLeft() {
        for (int time : new int[] {1, 2, 239, 240}) {
            for (int takes = Math.max(1, time - 1); takes <= time + 1; takes++) {
                String heap = Texts.letters(1) + Texts.helpers(1, "time " + time + " hand 1 bears 1") + "takes " + takes
                        + ";";
                boolean can = takes <= time;
                due(takes + " of " + time + " minutes, can", told(heap).can(0, 0), can ? 1 : 0);
                due(takes + " of " + time + " minutes, warmest", told(heap).warmest(0), can ? 0 : NONE);
                DearLetters mail = told(heap);
                due(takes + " of " + time + " minutes, answer", mail.answer(0, 0), can ? takes : NONE);
                due(takes + " of " + time + " minutes, left", mail.helper(0, 3), can ? time - takes : time);
                due(takes + " of " + time + " minutes, refused", mail.status(2), can ? 0 : 1);
            }
        }
        // Two letters: 20 and 20 of 40 minutes can be, of 39 not.
        for (int time = 39; time <= 40; time++) {
            DearLetters mail = told(Texts.letters(2) + Texts.helpers(1, "time " + time + " hand 1 bears 1"));
            mail.answer(0, 0);
            due("20 of " + (time - 20) + " minutes left, can", mail.can(1, 0), time - 39);
            due("20 of " + (time - 20) + " minutes left", mail.answer(1, 0), time == 40 ? 20 : NONE);
            due("minutes left behind it", mail.has(9), time == 40 ? 0 : 19);
        }
    }

    private static void answeredOnce() {
        DearLetters mail = told(Texts.letters(2) + Texts.helpers(2, "time 240 hand 1 bears 1"));
        due("can ahead", mail.can(0, 1), 1);
        due("answered", mail.answer(0, 1), 20);
        for (int helper = 0; helper < 2; helper++) {
            due("can't once it is answered", mail.can(0, helper), 0);
            due("not answered twice", mail.answer(0, helper), NONE);
        }
        due("the other can be", mail.can(1, 1), 1);
        due("answered by whom", mail.mail(0, 3), 1);
        due("minutes of the other helper", mail.helper(0, 3), 240);
        due("minutes left", mail.helper(1, 3), 220);
        due("refused", mail.status(2), 2);
        due("one act", mail.has(11), 1);
    }

    private static void sheetKinds() {
        for (int kind = -1; kind <= 6; kind++) {
            DearLetters mail = told(Texts.letters(1));
            boolean can = kind >= 1 && kind <= 4;
            due("sheet " + kind, mail.sheet(0, kind), can);
            due("sheet " + kind + " is had", mail.mail(0, 4), can ? kind : 0);
            due("sheet " + kind + ", with a sheet", mail.has(7), can ? 1 : 0);
            due("sheet " + kind + ", refused", mail.status(2), can ? 0 : 1);
            due("sheet " + kind + " again", mail.sheet(0, kind), false);
            mail.sheet(0, 2);
            due("no sheet instead of one", mail.sheet(0, 0), false);
            due("a fifth kind instead of one", mail.sheet(0, 5), false);
            due("it has what it had", mail.mail(0, 4), 2);
        }
    }

    private static void sheetsNear() {
        DearLetters mail = told(Texts.letters(8) + "near a h;near h g;");
        for (int kind = 1; kind <= 4; kind++) {
            due("the last letter gets it", mail.sheet(7, kind), true);
            due("the first is near", mail.sheet(0, kind), false);
            due("the seventh is near", mail.sheet(6, kind), false);
            due("the second is not near", mail.sheet(1, kind), true);
            due("the first gets another", mail.sheet(0, kind % 4 + 1), true);
            due("the seventh gets the same as the first", mail.sheet(6, kind % 4 + 1), true);
            due("near is so both ways", mail.sheet(7, kind % 4 + 1), false);
            for (int undone = 0; undone < 4; undone++) {
                mail.undo();
            }
        }
        DearLetters changed = told(Texts.letters(2) + "near a b;");
        changed.sheet(0, 1);
        changed.sheet(0, 2);
        due("what is changed is free", changed.sheet(1, 1), true);
        due("what is had now is not", changed.sheet(1, 2), false);
    }

    private static void stockOfGifts() {
        for (int stock = 0; stock <= 3; stock++) {
            DearLetters mail = told(Texts.letters(4) + Texts.gifts(1, stock));
            for (int letter = 0; letter < 4; letter++) {
                int left = stock - letter - 1;
                due("gift to letter " + letter + " of " + stock, mail.give(letter, 0), left < 0 ? NONE : left);
                due("left behind it", mail.gift(0, 0), Math.max(left, 0));
            }
            due("given", mail.has(8), stock);
            due("refused", mail.status(2), 4 - stock);
            due("acts", mail.has(11), stock);
        }
    }

    private static void oneGiftEach() {
        DearLetters mail = told(Texts.letters(2) + Texts.gifts(2, 3));
        due("the first", mail.give(0, 1), 2);
        due("the same again", mail.give(0, 1), NONE);
        due("another", mail.give(0, 0), NONE);
        due("its gift", mail.mail(0, 5), 1);
        due("the stock stays", mail.gift(0, 0) * 10 + mail.gift(1, 0), 32);
        due("without a wish, too", mail.give(1, 0), 2);
        due("refused", mail.status(2), 2);
    }

    private static void eveningAnswersAheadOfTheDay() {
        String heap = Texts.letters(1) + Texts.helpers(1, "time 20 hand 1 bears 1");
        // On day 0 the letter takes 20 minutes, on day 1 21, or the other way round.
        due("first the answers, then the day", told(heap + "takes 20+day;").evenings(1), 1);
        due("later, too", told(heap + "takes 20+day;").later(1), 1);
        DearLetters mail = told(heap + "takes 21-day;");
        due("not in the first evening", mail.evenings(1), 0);
        due("in the second", mail.evenings(1), 1);
        due("the day", mail.has(5), 2);
    }

    private static void eveningCounts() {
        for (int n : new int[] {1, 2, 49, 50}) {
            DearLetters mail = told(Texts.letters(8) + Texts.helpers(1, "time 20 hand 1 bears 1"));
            due("evenings(" + n + ")", mail.evenings(n), Math.min(n, 8));
            due("evenings(" + n + "), day", mail.has(5), n);
            due("evenings(" + n + "), answered", mail.has(6), Math.min(n, 8));
            due("evenings(" + n + "), one act", mail.has(11), 1);
            due("evenings(" + n + "), refused", mail.status(3), 0);
            DearLetters other = told(Texts.letters(8) + Texts.helpers(1, "time 20 hand 1 bears 1"));
            due("chance(" + n + ")", other.chance(n), 0);
            due("chance(" + n + "), day", other.has(5), n);
            due("chance(" + n + "), answered", other.has(6), Math.min(n, 8));
            due("chance(" + n + "), one act", other.has(11), 1);
        }
        due("none answered", told(Texts.letters(8)).evenings(50), 0);
        DearLetters mail = told(Texts.letters(3) + Texts.helpers(1, "time 60 hand 1 bears 1"));
        mail.answer(1, 0);
        due("those answered ahead don't count", mail.evenings(1), 2);
    }

    private static void eveningMinutes() {
        DearLetters mail = told(Texts.letters(4) + Texts.helpers(2, "time 59 hand 1 bears 1"));
        mail.answer(3, 0);
        mail.answer(2, 0);
        due("minutes left", mail.helper(0, 3), 19);
        due("one has no minutes for it", mail.evenings(1), 2);
        due("by the other", mail.helper(1, 4), 3);
        for (int helper = 0; helper < 2; helper++) {
            due("as many as told", mail.helper(helper, 3), 59);
        }
    }

    private static void lastDay() {
        for (int day : new int[] {948, 949, 950}) {
            DearLetters mail = told("");
            due("on() to day " + day, Texts.onDay(mail, day), true);
            due("50 evenings from day " + day, mail.evenings(50), day == 950 ? NONE : 0);
            due("the day behind them", mail.has(5), day == 950 ? 950 : day + 50);
            due("refused", mail.status(3), day == 950 ? 1 : 0);
            DearLetters other = told("");
            Texts.onDay(other, day);
            due("50 by chance from day " + day, other.chance(50), day == 950 ? NONE : 0);
            due("the day behind them", other.has(5), day == 950 ? 950 : day + 50);
        }
        DearLetters mail = told(Texts.letters(2) + Texts.helpers(1, "time 20 hand 1 bears 1"));
        Texts.onDay(mail, 998);
        due("two evenings from day 998", mail.evenings(2), NONE);
        due("none of them goes by", mail.has(6) + mail.has(11), 0);
        due("one evening from day 998", mail.evenings(1), 1);
        due("day 999", mail.has(5), 999);
        due("none from day 999", mail.evenings(1), NONE);
        due("none by chance from day 999", mail.chance(1), NONE);
        due("day 999 stays", mail.has(5), 999);
        due("the letter that is left can be answered", mail.answer(0, 0), 20);
        due("refused", mail.status(3), 3);
    }

    /** From day 0 to day 999 by evenings alone. */
    private static void dayByDay() {
        DearLetters mail = told("");
        for (int k = 1; k <= 19; k++) {
            due("50 evenings", k % 2 == 0 ? mail.evenings(50) : mail.chance(50), 0);
            due("the day", mail.has(5), 50 * k);
        }
        due("50 more", mail.evenings(50), NONE);
        due("49 more", mail.evenings(49), 0);
        due("day 999", mail.has(5), 999);
        due("one more", mail.evenings(1), NONE);
        due("undone", mail.undo(), true);
        due("the day", mail.has(5), 950);
    }

    private static long next(long x) {
        return (1103515245L * x + 12345) % 2147483648L;
    }

    private static int drawOf(long x) {
        return (int) (next(x) / 64 % 100);
    }

    /** The least seed by which the first draw is this. */
    private static int seedFor(int draw) {
        int seed = 0;
        while (drawOf(seed) != draw) {
            seed++;
        }
        return seed;
    }

    private static int chanceBy(int seed, int cold) {
        DearLetters mail = told(Texts.helpers(1, "time 20 hand 1 bears 1") + "cold " + cold + ";");
        mail.seed(seed);
        return mail.chance(1);
    }

    private static void colds() {
        for (int draw : new int[] {0, 1, 49, 50, 98, 99}) {
            int seed = seedFor(draw);
            due("a draw of " + draw + " below " + (draw + 1), chanceBy(seed, draw + 1), 1);
            due("a draw of " + draw + " not below " + draw, chanceBy(seed, draw), 0);
        }
        due("cold 0 by a draw of 0", chanceBy(seedFor(0), 0), 0);
        due("cold 100 by a draw of 99", chanceBy(seedFor(99), 100), 1);
    }

    /** A draw for each helper by number, evening by evening. */
    private static void coldsInOrder() {
        for (int seed : new int[] {0, 1, 5, 77, 123456789, Texts.MOST}) {
            DearLetters mail = told(Texts.letters(8) + Texts.helpers(3, "time 20 hand 1 bears 1") + "cold 50;");
            mail.seed(seed);
            long x = seed;
            int answered = 0;
            for (int evening = 0; evening < 3; evening++) {
                int colds = 0;
                int well = 0;
                for (int helper = 0; helper < 3; helper++) {
                    boolean cold = drawOf(x) < 50;
                    x = next(x);
                    colds += cold ? 1 : 0;
                    well |= cold ? 0 : 1 << helper;
                }
                int[] ahead = {mail.helper(0, 4), mail.helper(1, 4), mail.helper(2, 4)};
                due("colds by seed " + seed + " in evening " + evening, mail.chance(1), colds);
                for (int helper = 0; helper < 3 && answered + 3 <= 8; helper++) {
                    int more = Integer.bitCount(mail.helper(helper, 4) & ~ahead[helper]);
                    due("helper " + helper + " answers, if well", more, (well >> helper) & 1);
                }
                answered = mail.has(6);
            }
        }
        // As many evenings at once are the same.
        DearLetters one = told(Texts.letters(8) + Texts.helpers(3, "time 20 hand 1 bears 1") + "cold 40;");
        DearLetters all = told(Texts.letters(8) + Texts.helpers(3, "time 20 hand 1 bears 1") + "cold 40;");
        int colds = one.chance(1) + one.chance(1) + one.chance(1);
        due("three evenings at once", all.chance(3), colds);
        due("the same behind them", Check.image(all).equals(Check.image(one)), true);
        due("the same draws behind them", all.chance(50), one.chance(50));
    }

    private static void coldForAnEvening() {
        // The first draw by 1 is 18, the second 99.
        DearLetters mail = told(Texts.letters(1) + Texts.helpers(1, "time 20 hand 1 bears 1") + "cold 19;");
        due("a cold in the first evening", mail.chance(1), 1);
        due("nothing is answered in it", mail.has(6), 0);
        due("behind it minutes as told", mail.helper(0, 3), 20);
        due("he can again", mail.can(0, 0), 1);
        due("well in the second", mail.chance(1), 0);
        due("then it is answered", mail.has(6), 1);
        DearLetters both = told(Texts.letters(1) + Texts.helpers(1, "time 20 hand 1 bears 1") + "cold 19;");
        due("both evenings at once", both.chance(2), 1);
        due("answered in the second", both.has(6), 1);
    }

    private static void drawsWithoutCold() {
        DearLetters mail = told(Texts.helpers(2, "time 20 hand 1 bears 1"));
        mail.chance(3);
        Check.heap(mail, Texts.helpers(1, "time 20 hand 1 bears 1") + "cold 50;");
        long x = 1;
        for (int k = 0; k < 6; k++) {
            x = next(x);
        }
        for (int k = 0; k < 10; k++) {
            due("draws are made without cold, too " + k, mail.chance(1), drawOf(x) < 50 ? 1 : 0);
            x = next(x);
        }
        // Without helpers there are no draws; evenings without the seed draw nothing.
        DearLetters none = told("cold 100;");
        due("no helper, no cold", none.chance(50), 0);
        Check.heap(none, Texts.helpers(1, "time 20 hand 1 bears 1") + "cold 19;");
        none.evenings(3);
        none.later(3);
        none.finished();
        due("the seed is as it was", none.chance(1), 1);
    }

    private static void chanceTakesMinutesLeft() {
        DearLetters mail = told(Texts.letters(3) + Texts.helpers(1, "time 40 hand 1 bears 1"));
        mail.answer(0, 0);
        mail.chance(1);
        due("one letter by 20 minutes left", mail.has(6), 2);
        DearLetters cold = told(Texts.letters(3) + Texts.helpers(1, "time 40 hand 1 bears 1") + "cold 100;takes 0;");
        cold.answer(0, 0);
        due("a cold takes what is left", cold.chance(1), 1);
        due("not even what takes 1 minute is answered", cold.has(6), 1);
    }

    private static void seeds() {
        DearLetters mail = told(Texts.helpers(1, "time 20 hand 1 bears 1") + "cold 50;");
        for (int seed : new int[] {0, 1, 2, 2147483646, Texts.MOST}) {
            due("seed(" + seed + ")", mail.seed(seed), true);
            due("the draw by it", mail.chance(1), drawOf(seed) < 50 ? 1 : 0);
        }
        for (int seed : new int[] {-1, -2, -2147483647, Texts.LEAST}) {
            mail.seed(9);
            due("seed(" + seed + ")", mail.seed(seed), false);
            due("the seed stays", mail.chance(1), drawOf(9) < 50 ? 1 : 0);
        }
        due("refused", mail.status(5), 4);
        due("it is no act", told("").has(11), 0);
        DearLetters fresh = told(Texts.helpers(1, "time 20 hand 1 bears 1") + "cold 19;");
        due("the seed is 1 at first: a draw of 18", fresh.chance(1), 1);
    }

    private static void drawFormula() {
        due("the next of 0", next(0), 12345);
        due("the next of 1", next(1), 1103527590);
        // 2147483647 is -1 by 2 to the 31.
        due("the next of the most", next(2147483647L), 2147483648L - 1103515245L + 12345L);
        for (int cold : new int[] {10, 50, 90}) {
            for (int seed : new int[] {0, 1, 2147483647, 1073741824}) {
                DearLetters mail = told(Texts.helpers(3, "time 20 hand 1 bears 1") + "cold " + cold + ";");
                mail.seed(seed);
                long x = seed;
                int colds = 0;
                for (int k = 0; k < 150; k++) {
                    colds += drawOf(x) < cold ? 1 : 0;
                    x = next(x);
                }
                due("150 draws by " + seed + " below " + cold, mail.chance(50), colds);
            }
        }
    }

    private static void act(DearLetters mail, int k) {
        switch (k) {
            case 0 -> due("act answer", mail.answer(0, 0), 20);
            case 1 -> due("act sheet", mail.sheet(0, 1), true);
            case 2 -> due("act sheet changed", mail.sheet(0, 3), true);
            case 3 -> due("act give", mail.give(0, 0), 0);
            case 4 -> due("act evenings", mail.evenings(1), 2);
            case 5 -> due("act chance", mail.chance(2) >= 0, true);
            default -> due("act give behind", mail.give(1, 1), 2);
        }
    }

    private static void undoEachAct() {
        DearLetters mail = told(Texts.letters(4) + Texts.gifts(1, 1) + "gift q stock 3;"
                + Texts.helpers(1, "time 60 hand 1 bears 1") + "cold 50;");
        List<String> images = new ArrayList<>();
        for (int k = 0; k < 7; k++) {
            images.add(Check.image(mail));
            due("acts ahead of " + k, mail.has(11), k);
            act(mail, k);
        }
        for (int k = 6; k >= 0; k--) {
            due("undo of " + k, mail.undo(), true);
            due("as ahead of act " + k, Check.image(mail).equals(images.get(k)), true);
            due("acts that can be undone", mail.has(11), k);
        }
        due("no more", mail.undo(), false);
        due("refused", mail.status(4), 1);
    }

    private static void undoTwenty() {
        for (int acts : new int[] {1, 19, 20, 21, 22, 40, 41}) {
            DearLetters mail = told("");
            for (int k = 0; k < acts; k++) {
                mail.evenings(1);
                due("acts behind " + (k + 1), mail.has(11), Math.min(k + 1, 20));
            }
            int most = Math.min(acts, 20);
            for (int k = 1; k <= most; k++) {
                due("undo " + k + " of " + acts, mail.undo(), true);
                due("the day", mail.has(5), acts - k);
                due("acts left", mail.has(11), most - k);
            }
            due("undo beyond the last of " + acts, mail.undo(), false);
            due("the day stays", mail.has(5), acts - most);
            due("refused", mail.status(4), 1);
        }
    }

    /** Acts and undoing by turns, so that what is kept goes round. */
    private static void undoRing() {
        DearLetters mail = told("");
        List<Integer> days = new ArrayList<>();
        int[] steps = {13, -4, 9, -7, 15, -20, 3, 30, -20, -1, 2};
        for (int step : steps) {
            for (int k = 0; k < step; k++) {
                days.add(mail.has(5));
                if (days.size() > 20) {
                    days.remove(0);
                }
                mail.evenings(k % 3 + 1);
            }
            for (int k = 0; k < -step; k++) {
                boolean can = !days.isEmpty();
                int day = can ? days.remove(days.size() - 1) : mail.has(5);
                due("undo by turns", mail.undo(), can);
                due("the day by turns", mail.has(5), day);
            }
            due("acts by turns", mail.has(11), days.size());
        }
    }

    private static void undoBehindRefusals() {
        DearLetters mail = told(Texts.letters(1) + Texts.helpers(1, "time 20 hand 1 bears 1"));
        mail.answer(0, 0);
        mail.answer(0, 0);
        mail.sheet(0, 9);
        mail.give(0, 0);
        mail.evenings(0);
        mail.chance(51);
        mail.seed(3);
        mail.seed(-3);
        Texts.see(mail, 0, 0, 20);
        mail.image();
        due("refused ones, a seed, minutes seen are no acts", mail.has(11), 1);
        due("the latest act is undone", mail.undo(), true);
        due("it is the answer", mail.mail(0, 3), NONE);
        due("minutes seen stay", mail.has(10), 1);
    }

    private static void undoneByHeapAndImage() {
        DearLetters mail = told(Texts.letters(1));
        mail.sheet(0, 1);
        String image = Check.image(mail);
        mail.sheet(0, 2);
        Check.tape(mail, "?");
        due("a heap with a fault", mail.heap(), NONE);
        due("acts stay", mail.has(11), 2);
        Check.tape(mail, image + "?");
        due("no image", mail.on(), false);
        due("acts stay", mail.has(11), 2);
        Check.tape(mail, image);
        due("an image", mail.on(), true);
        due("no act can be undone", mail.has(11), 0);
        due("undo", mail.undo(), false);
        mail.sheet(0, 3);
        due("an act behind it can be", mail.undo(), true);
        due("as the image tells", mail.mail(0, 4), 1);
        mail.sheet(0, 3);
        Check.heap(mail, Texts.letters(1));
        due("no act can be undone", mail.has(11), 0);
        due("undo", mail.undo(), false);
        due("refused", mail.status(4), 2);
    }
}
