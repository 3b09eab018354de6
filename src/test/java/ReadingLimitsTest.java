import java.util.function.IntToLongFunction;

/** What only tells something, promises 1 to 3, 5 to 13 and 36: each argument at its limits, empty and full. */
public final class ReadingLimitsTest {
    private static final int NONE = Texts.NONE;
    private static final Check check = new Check("ReadingLimitsTest");

    public static void main(String[] args) {
        newObject();
        tape();
        tapeBytes();
        tapeEnds();
        counts();
        countsBehindActs();
        names();
        mails();
        gifts();
        helpers();
        pairsOfLetterAndHelper();
        plansByLetter();
        statuses();
        statusStays();
        heapAnew();
        heapsOfUnlikeSizes();
        check.finish();
    }

    private static DearLetters told(String text) {
        return Texts.told(check, text);
    }

    private static void due(String call, long got, long want) {
        check.due(call, got, want);
    }

    private static void due(String call, boolean got, boolean want) {
        check.due(call, got, want);
    }

    /** One argument: there is an answer from 0 to below count, and none outside of it. */
    private static void within(String call, int count, IntToLongFunction asked, long none) {
        for (int n = 0; n < count; n++) {
            due(call + " of " + n + " is told", asked.applyAsLong(n) != none, true);
        }
        for (int n : new int[] {-1, -2, count, count + 1, 256, Texts.LEAST, Texts.LEAST + 1, Texts.MOST}) {
            due(call + " of " + n, asked.applyAsLong(n), none);
        }
    }

    private static String full() {
        StringBuilder all = new StringBuilder();
        for (int k = 0; k < 8; k++) {
            all.append("letter ").append((char) ('a' + k)).append(" age ").append(k).append(" need ").append(9 - k).append(" grave ")
                    .append(k).append(';');
        }
        all.append(Texts.gifts(4, 3)).append(Texts.helpers(3, "time 240 hand 9 bears 10"));
        for (int k = 0; k < 8; k++) {
            for (int g = 0; g < 4; g++) {
                all.append("wish ").append((char) ('a' + k)).append(' ').append((char) ('p' + g)).append(' ')
                        .append((k + g) % 9 + 1).append(';');
            }
        }
        return all.append("near a h;near g h;near b c;like a b 6;").toString();
    }

    private static void newObject() {
        DearLetters mail = new DearLetters();
        within("has", 12, n -> mail.has(n), NONE);
        for (int what = 0; what < 12; what++) {
            due("has(" + what + ")", mail.has(what), 0);
        }
        due("fault(0)", mail.fault(0), 0);
        due("fault(1)", mail.fault(1), NONE);
        for (int n : new int[] {0, 1, -1, Texts.MOST, Texts.LEAST}) {
            due("letter", mail.letter(0, n, 0) + mail.letter(1, n, 0) + mail.letter(2, n, 0), 3 * NONE);
            due("mail", mail.mail(n, 0), NONE);
            due("gift", mail.gift(n, 0), NONE);
            due("gift of a letter", mail.gift(n, 10), NONE);
            due("helper", mail.helper(n, 0), NONE);
            due("takes", mail.takes(n, n), NONE);
            due("warmth", mail.warmth(n, n), DearLetters.NOTHING);
            due("can", mail.can(n, n), NONE);
            due("octet", mail.octet(n), NONE);
        }
        within("warmest", 0, n -> n == NONE ? NONE : mail.warmest(n), NONE);
        within("sheets", 0, n -> n == NONE ? NONE : mail.sheets(n), NONE);
        within("shared", 0, n -> n == NONE ? NONE : mail.shared(n), NONE);
        within("children", 0, n -> n == NONE ? NONE : mail.children(n), NONE);
        due("the tape is empty", mail.end(0), true);
        due("the tape is empty", mail.end(1), false);
        due("an empty tape is a heap", mail.heap(), 0);
    }

    private static void tape() {
        DearLetters mail = new DearLetters();
        for (int k = 1; k <= 80; k++) {
            due("feed " + k, mail.feed(k, k, k, k, k), 20 * k);
        }
        due("feed at 1600", mail.feed(0, 0, 0, 0, 0), NONE);
        due("refused", mail.status(0), 1);
        for (int size : new int[] {1599, 1590, 1582, 1581}) {
            due("end(" + size + ")", mail.end(size), true);
            due("feed at " + size, mail.feed(0, 0, 0, 0, 0), NONE);
        }
        due("refused", mail.status(0), 5);
        due("end(1580)", mail.end(1580), true);
        due("feed at 1580", mail.feed(0, 0, 0, 0, 0), 1600);
        due("end(1579)", mail.end(1579), true);
        due("feed at 1579", mail.feed(0, 0, 0, 0, 0), 1599);
        due("refused", mail.status(0), 5);
    }

    private static void tapeBytes() {
        DearLetters mail = new DearLetters();
        // "total 1+2+3+4+5+6+7 " by numbers, then numbers below 0 as bytes from 128 on.
        mail.feed(0x746f7461, 0x6c20312b, 0x322b332b, 0x342b352b, 0x362b3720);
        mail.heap();
        Check.heap(mail, Texts.letters(1));
        mail.feed(0x746f7461, 0x6c20312b, 0x322b332b, 0x342b352b, 0x362b3720);
        due("the highest byte first", mail.ask(), 28);
        Check.heap(mail, Texts.letters(8) + Texts.helpers(1, "time 9 hand 1 bears 1") + "takes 999;");
        mail.feed(0x0003e707, 0x03e70203, 0xe7ffffff, -1, -1);
        due("end(9)", mail.end(9), true);
        due("three rows", mail.see(), 3);
        due("999 minutes by bytes 3 and 231", mail.whose(), 1);
        mail.feed(-1, -1, -1, -1, -1);
        due("bytes of 255", mail.heap(), NONE);
        due("at the first", 10 * mail.fault(0) + mail.fault(1), 10);
        mail.feed(0x20202020, 0x20202020, 0x20202020, 0x20202020, 0x202020a0);
        due("a byte of 160", mail.heap(), NONE);
        due("at the last", mail.fault(1), 19);
    }

    private static void tapeEnds() {
        DearLetters mail = new DearLetters();
        due("end(0) of none", mail.end(0), true);
        mail.feed(0x636f6c64, 0x20313b63, 0x6f6c6420, 0x323b3f3f, 0x3f3f3f3f);
        for (int n : new int[] {21, 22, 1600, Texts.MOST, -1, Texts.LEAST}) {
            due("end(" + n + ") of 20", mail.end(n), false);
        }
        due("refused", mail.status(0), 6);
        due("end(20) of 20", mail.end(20), true);
        due("end(14) of 20", mail.end(14), true);
        due("end(15) of 14", mail.end(15), false);
        due("end(14) of 14", mail.end(14), true);
        due("its first bytes alone", mail.heap(), 2);
        mail.feed(0x636f6c64, 0x20313b63, 0x6f6c6420, 0x323b3f3f, 0x3f3f3f3f);
        mail.end(7);
        due("behind those on the tape", mail.feed(0x636f6c64, 0x20333b20, 0x20202020, 0x20202020, 0x20202020), 27);
        due("both", mail.heap(), 2);
        due("refused", mail.status(0), 7);
        mail.feed(0, 0, 0, 0, 0);
        due("end(0)", mail.end(0), true);
        due("nothing is left", mail.heap(), 0);
    }

    private static void counts() {
        for (int n = 0; n <= 8; n++) {
            due("letters " + n, told(Texts.letters(n)).has(0), n);
        }
        for (int n = 0; n <= 4; n++) {
            due("gifts " + n, told(Texts.gifts(n, 1)).has(1), n);
        }
        for (int n = 0; n <= 3; n++) {
            DearLetters mail = told(Texts.helpers(n, "time 240 hand 1 bears 1"));
            due("helpers " + n, mail.has(2), n);
            due("minutes left of " + n, mail.has(9), 240 * n);
        }
        for (int n : new int[] {0, 1, 19, 20}) {
            due("near " + n, told(Texts.letters(8) + Texts.pairs("near", n, "")).has(3), n);
        }
        for (int n : new int[] {0, 1, 9, 10}) {
            due("like " + n, told(Texts.letters(8) + Texts.pairs("like", n, " 5")).has(4), n);
        }
        DearLetters mail = told(full());
        within("has", 12, n -> mail.has(n), NONE);
    }

    private static void countsBehindActs() {
        DearLetters mail = told(Texts.letters(8) + Texts.gifts(4, 3) + Texts.helpers(1, "time 240 hand 1 bears 1"));
        for (int letter = 0; letter < 8; letter++) {
            mail.answer(letter, 0);
            mail.sheet(letter, 2);
            mail.give(letter, letter / 2);
            int[] due = {letter + 1, letter + 1, letter + 1, 240 - 20 * (letter + 1)};
            for (int k = 0; k < 4; k++) {
                due("has(" + (6 + k) + ") behind letter " + letter, mail.has(6 + k), due[k]);
            }
            due("acts", mail.has(11), Math.min(20, 3 * (letter + 1)));
        }
        mail.sheet(0, 3);
        due("a sheet that is another one", mail.has(7), 8);
    }

    private static void names() {
        DearLetters mail = told("letter a age 1 need 1 grave 1;letter zyxwvu age 1 need 1 grave 1;gift bcdefg stock 1;"
                + "gift abcde stock 1;helper zz time 1 hand 1 bears 1;");
        int[][][] due = {{{1, 0, 0, 0, 0, 0}, {26, 25, 24, 23, 22, 21}}, {{2, 3, 4, 5, 6, 7}, {1, 2, 3, 4, 5, 0}},
            {{26, 26, 0, 0, 0, 0}}};
        for (int kind = 0; kind < 3; kind++) {
            int sort = kind;
            for (int which = 0; which < due[kind].length; which++) {
                int one = which;
                for (int k = 0; k < 6; k++) {
                    due("letter(" + kind + ", " + which + ", " + k + ")", mail.letter(kind, which, k), due[kind][which][k]);
                }
                within("letter by k", 6, k -> mail.letter(sort, one, k), NONE);
            }
            within("letter by which", due[kind].length, which -> mail.letter(sort, which, 0), NONE);
        }
        within("letter by kind", 3, kind -> mail.letter(kind, 0, 0), NONE);
        DearLetters all = told(full());
        within("letter by kind, pairs being told", 3, kind -> all.letter(kind, 0, 0), NONE);
        int[] counts = {8, 4, 3};
        for (int kind = 0; kind < 3; kind++) {
            int sort = kind;
            within("letter by which, full", counts[kind], which -> all.letter(sort, which, 5), NONE);
        }
    }

    private static void mails() {
        DearLetters mail = told(full());
        within("mail by letter", 8, n -> mail.mail(n, 0), NONE);
        within("mail by letter, near", 8, n -> mail.mail(n, 7), NONE);
        for (int letter = 0; letter < 8; letter++) {
            int wishes = 0;
            for (int g = 0; g < 4; g++) {
                wishes += (letter + g) % 9 + 1;
            }
            int near = letter == 0 || letter == 6 ? 128 : letter == 7 ? 65 : letter == 1 ? 4 : letter == 2 ? 2 : 0;
            int[] due = {letter, 9 - letter, letter, NONE, 0, NONE, wishes, near};
            for (int what = 0; what < 8; what++) {
                due("mail(" + letter + ", " + what + ")", mail.mail(letter, what), due[what]);
            }
        }
        for (int what : new int[] {-1, -2, 8, 9, Texts.LEAST, Texts.MOST}) {
            due("mail(0, " + what + ")", mail.mail(0, what), NONE);
            due("mail(7, " + what + ")", mail.mail(7, what), NONE);
        }
        mail.answer(7, 2);
        mail.sheet(7, 4);
        mail.give(7, 3);
        due("the last of each", 100 * mail.mail(7, 3) + 10 * mail.mail(7, 4) + mail.mail(7, 5), 243);
        mail.answer(0, 0);
        mail.sheet(0, 1);
        mail.give(0, 0);
        due("the first of each", 100 * mail.mail(0, 3) + 10 * mail.mail(0, 4) + mail.mail(0, 5), 10);
    }

    private static void gifts() {
        DearLetters mail = told(full());
        within("gift by gift", 4, n -> mail.gift(n, 0), NONE);
        for (int gift = 0; gift < 4; gift++) {
            int one = gift;
            due("left of " + gift, mail.gift(gift, 0), 3);
            for (int letter = 0; letter < 8; letter++) {
                due("wish of " + letter, mail.gift(gift, 10 + letter), (letter + gift) % 9 + 1);
            }
            for (int what : new int[] {-1, 1, 2, 8, 9, 18, 19, -10, Texts.LEAST, Texts.LEAST + 9, Texts.MOST}) {
                due("gift(" + gift + ", " + what + ")", mail.gift(one, what), NONE);
            }
        }
        DearLetters none = told(Texts.gifts(1, 2));
        due("without letters", none.gift(0, 10), NONE);
        due("the stock", none.gift(0, 0), 2);
        DearLetters seven = told(Texts.letters(7) + Texts.gifts(1, 2));
        due("the seventh", seven.gift(0, 16), 0);
        due("no eighth", seven.gift(0, 17), NONE);
    }

    private static void helpers() {
        DearLetters mail = told(full());
        within("helper by helper", 3, n -> mail.helper(n, 0), NONE);
        for (int helper = 0; helper < 3; helper++) {
            int[] due = {240, 9, 10, 240, 0};
            for (int what = 0; what < 5; what++) {
                due("helper(" + helper + ", " + what + ")", mail.helper(helper, what), due[what]);
            }
            for (int what : new int[] {-1, 5, 6, Texts.LEAST, Texts.MOST}) {
                due("helper(" + helper + ", " + what + ")", mail.helper(helper, what), NONE);
            }
        }
        mail.answer(0, 2);
        mail.answer(7, 2);
        mail.answer(3, 0);
        due("answered by the last, as bits", mail.helper(2, 4), 129);
        due("answered by the first", mail.helper(0, 4), 8);
        due("answered by the second", mail.helper(1, 4), 0);
        DearLetters all = told(Texts.letters(8) + Texts.helpers(1, "time 240 hand 1 bears 1"));
        all.evenings(1);
        due("all eight", all.helper(0, 4), 255);
    }

    private static void pairsOfLetterAndHelper() {
        DearLetters mail = told(full());
        within("takes by letter", 8, n -> mail.takes(n, 2), NONE);
        within("takes by helper", 3, n -> mail.takes(7, n), NONE);
        within("warmth by letter", 8, n -> mail.warmth(n, 2), DearLetters.NOTHING);
        within("warmth by helper", 3, n -> mail.warmth(7, n), DearLetters.NOTHING);
        within("can by letter", 8, n -> mail.can(n, 2), NONE);
        within("can by helper", 3, n -> mail.can(7, n), NONE);
        DearLetters letters = told(Texts.letters(1));
        due("without helpers", letters.takes(0, 0), NONE);
        due("without helpers", letters.warmth(0, 0), DearLetters.NOTHING);
        due("without helpers", letters.can(0, 0), NONE);
        DearLetters helpers = told(Texts.helpers(1, "time 1 hand 1 bears 1"));
        due("without letters", helpers.takes(0, 0), NONE);
        due("without letters", helpers.warmth(0, 0), DearLetters.NOTHING);
        due("without letters", helpers.can(0, 0), NONE);
    }

    private static void plansByLetter() {
        DearLetters mail = told(full());
        within("warmest", 8, n -> n == NONE ? NONE : mail.warmest(n), NONE);
        within("sheets", 8, n -> n == NONE ? NONE : mail.sheets(n), NONE);
        within("shared", 8, n -> n == NONE ? NONE : mail.shared(n), NONE);
        within("children", 8, n -> n == NONE ? NONE : mail.children(n), NONE);
        within("later", 31, n -> mail.later(n), NONE);
        within("tell", 2, n -> mail.tell(n), NONE);
        within("watched", 2, n -> mail.watched(n), NONE);
        within("status", 6, n -> mail.status(n), NONE);
    }

    private static void statuses() {
        DearLetters mail = new DearLetters();
        within("status", 6, n -> mail.status(n), NONE);
        int[] due = new int[6];
        for (int round = 1; round <= 3; round++) {
            mail.end(-1);
            mail.end(1);
            Check.heap(mail, "x");
            mail.see();
            mail.answer(0, 0);
            mail.sheet(0, 1);
            mail.give(0, 0);
            mail.evenings(0);
            mail.chance(0);
            mail.undo();
            mail.seed(-1);
            mail.on();
            int[] more = {2, 2, 3, 2, 1, 2};
            for (int k = 0; k < 6; k++) {
                due[k] += more[k];
                due("status(" + k + ") in round " + round, mail.status(k), due[k]);
            }
        }
        // What is done is not counted.
        Check.heap(mail, Texts.letters(1) + Texts.gifts(1, 1) + Texts.helpers(1, "time 20 hand 1 bears 1"));
        Texts.see(mail, 0, 0, 20);
        mail.answer(0, 0);
        mail.sheet(0, 1);
        mail.give(0, 0);
        mail.evenings(1);
        mail.chance(1);
        mail.undo();
        mail.seed(0);
        Texts.onDay(mail, 3);
        Check.ask(mail, "x");
        for (int k = 0; k < 6; k++) {
            due("status(" + k + ") behind what is done", mail.status(k), due[k]);
        }
    }

    private static void statusStays() {
        DearLetters mail = told(Texts.letters(1));
        mail.sheet(0, 1);
        mail.sheet(0, 1);
        mail.undo();
        due("undo() leaves it", mail.status(2), 1);
        Texts.onDay(mail, 1);
        due("on() leaves it", mail.status(2), 1);
        Check.heap(mail, "");
        due("heap() leaves it", mail.status(2), 1);
    }

    private static void heapAnew() {
        DearLetters mail = told(full());
        mail.answer(0, 0);
        mail.sheet(1, 2);
        mail.give(2, 3);
        mail.evenings(4);
        Texts.see(mail, 0, 0, 20);
        due("the same heap again", Check.heap(mail, full()), 51);
        int[] due = {8, 4, 3, 3, 1, 0, 0, 0, 0, 720, 0, 0};
        for (int what = 0; what < 12; what++) {
            due("has(" + what + ") anew", mail.has(what), due[what]);
        }
        for (int letter = 0; letter < 8; letter++) {
            due("not answered anew", mail.mail(letter, 3), NONE);
            due("no sheet anew", mail.mail(letter, 4), 0);
            due("no gift anew", mail.mail(letter, 5), NONE);
        }
        due("the stock anew", mail.gift(3, 0), 3);
        due("nothing to undo", mail.undo(), false);
        due("all by minutes", mail.whose(), 7);
    }

    /** Nothing of a greater heap is left in a smaller one, nor of one with a fault in the next. */
    private static void heapsOfUnlikeSizes() {
        DearLetters mail = told(full() + "like c d 0;takes 3;warm 4;missed 9;cold 100;");
        Check.heap(mail, full() + "like c d 0;takes 3;warm 4;missed 9;cold 100;?");
        due("a fault", mail.fault(0), 1);
        due("a small heap", Check.heap(mail, Texts.letters(2) + Texts.gifts(1, 1)
                + Texts.helpers(1, "time 50 hand 6 bears 5")), 4);
        int[] due = {2, 1, 1, 0, 0, 0, 0, 0, 0, 50, 0, 0};
        for (int what = 0; what < 12; what++) {
            due("has(" + what + ") of a small heap", mail.has(what), due[what]);
        }
        due("no wishes", mail.mail(0, 6) + mail.mail(1, 6) + mail.gift(0, 10), 0);
        due("none near", mail.mail(0, 7) + mail.mail(1, 7), 0);
        due("none alike", mail.children(NONE), 1);
        due("takes", mail.takes(0, 0), 20);
        due("warm", mail.warmth(0, 0), 6);
        due("missed", mail.tell(1), 6);
        due("cold", mail.chance(1), 0);
        due("a greater one again", Check.heap(mail, full()), 51);
        due("all letters", mail.has(0), 8);
        due("none alike", mail.children(NONE), 1);
    }
}
