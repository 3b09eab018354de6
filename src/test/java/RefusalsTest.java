import java.util.Arrays;
import java.util.List;
import java.util.function.Consumer;
import java.util.function.ToLongFunction;

/**
 * Each call that the document refuses: its answer, its one count in status, and that all stays. Each is made on one of
 * two objects that had the same calls ahead; behind it the two may differ in that count alone.
 */
public final class RefusalsTest {
    private static final int NONE = Texts.NONE;
    private static final int NOWHERE = -1;
    private static final int[] OUTSIDE = {-1, -2, Texts.LEAST, Texts.MOST};
    private static final Check check = new Check("RefusalsTest");
    private static Consumer<DearLetters> ahead;

    public static void main(String[] args) {
        feeds();
        ends();
        heaps();
        sees();
        answers();
        sheets();
        gives();
        evenings();
        undoes();
        seeds();
        ons();
        asks();
        readings();
        tapes();
        check.finish();
    }

    /** Three letters, one grave, one answered, with a sheet and a gift; minutes seen, a seed, an image. */
    private static void busy(DearLetters mail) {
        Check.heap(mail, "letter a age 3 need 4 grave 0;letter b age 5 need 6 grave 1;letter c age 7 need 8 grave 9;"
                + "gift p stock 1;gift q stock 2;gift r stock 0;wish a p 3;wish b q 4;wish c q 5;near a b;like b c 4;"
                + "helper x time 60 hand 7 bears 5;helper y time 45 hand 2 bears 9;takes 20+age;cold 50;");
        mail.evenings(1);
        mail.undo();
        mail.answer(0, 0);
        mail.sheet(0, 1);
        mail.give(0, 0);
        Texts.see(mail, 0, 0, 23, 1, 0, 25);
        mail.seed(77);
        mail.image();
    }

    private static void busyOn(DearLetters mail, int day) {
        busy(mail);
        check.due("on() to day " + day, Texts.onDay(mail, day), true);
        mail.sheet(2, 4);
    }

    private static DearLetters made() {
        DearLetters mail = new DearLetters();
        ahead.accept(mail);
        return mail;
    }

    /** The call answers so, one count of status is one more (none at NOWHERE), and nothing else is another. */
    private static void refused(String call, ToLongFunction<DearLetters> act, long answer, int what, boolean newFault) {
        DearLetters without = made();
        DearLetters with = made();
        check.due(call, act.applyAsLong(with), answer);
        for (int k = 0; k < 6; k++) {
            check.due(call + ", status(" + k + ")", with.status(k), without.status(k) + (k == what ? 1 : 0));
        }
        for (int k = 0; k < 2 && !newFault; k++) {
            check.due(call + ", fault(" + k + ")", with.fault(k), without.fault(k));
        }
        String due = View.of(without);
        String got = View.of(with);
        check.due(call + ", all stays\n" + got + "\n" + due + "\n", got.equals(due), true);
    }

    private static void number(String call, ToLongFunction<DearLetters> act, int what) {
        refused(call, act, NONE, what, false);
    }

    private static void truth(String call, ToLongFunction<DearLetters> act, int what) {
        refused(call, act, 0, what, false);
    }

    private static long told(boolean answer) {
        return answer ? 1 : 0;
    }

    private static void feeds() {
        String text = "total 1" + " ".repeat(1593);
        ahead = mail -> Check.tape(mail, text);
        number("feed() behind 1600 bytes", mail -> mail.feed(1, 2, 3, 4, 5), 0);
        ahead = mail -> Check.tape(mail, text.substring(0, 1581));
        number("feed() behind 1581 bytes", mail -> mail.feed(1, 2, 3, 4, 5), 0);
        ahead = mail -> {
            busy(mail);
            Check.tape(mail, text);
        };
        number("feed() beside a heap", mail -> mail.feed(-1, -1, -1, -1, -1), 0);
    }

    private static void ends() {
        ahead = mail -> { };
        for (int n : new int[] {1, 20, 1600, 1601, Texts.MOST, -1, -2, -20, Texts.LEAST}) {
            truth("end(" + n + ") of no tape", mail -> told(mail.end(n)), 0);
        }
        ahead = mail -> {
            busy(mail);
            Check.tape(mail, "total 1");
        };
        for (int n : new int[] {8, 20, Texts.MOST, -1, Texts.LEAST}) {
            truth("end(" + n + ") of seven bytes", mail -> told(mail.end(n)), 0);
        }
        ahead = mail -> Check.tape(mail, "total 1" + " ".repeat(1593));
        truth("end(1601) of 1600", mail -> told(mail.end(1601)), 0);
    }

    private static void heaps() {
        String[] faults = {"x", "letter", "letter a age 21", "letter a age 1 need 1 grave 1;letter a", "takes (((((((",
            "takes 1;takes", "letter zz age 9 need 9 grave 9;gift z stock 3;helper y time 240 hand 9 bears 9;missed 9;"
                    + "cold 9;takes 9;warm 9;wish zz z 9;?"};
        List<Consumer<DearLetters>> all = List.of(mail -> { }, RefusalsTest::busy, mail -> busyOn(mail, 990));
        for (Consumer<DearLetters> each : all) {
            ahead = each;
            for (String text : faults) {
                refused("heap() of " + text, mail -> Check.heap(mail, text), NONE, 1, true);
            }
        }
    }

    private static void sees() {
        ahead = RefusalsTest::busy;
        String row = Check.bytes(0, 0, 23);
        String[] tapes = {"", row.substring(0, 1), row.substring(0, 2), row + row.substring(0, 1),
            row + row.substring(0, 2), row.repeat(16) + row.substring(0, 1), row.repeat(15) + row.substring(0, 2),
            row.repeat(17), row.repeat(533), Check.bytes(3, 0, 23), Check.bytes(255, 0, 23), row + Check.bytes(3, 0, 23),
            row.repeat(15) + Check.bytes(128, 0, 23)};
        for (String tape : tapes) {
            number("see() of " + tape.length() + " bytes", mail -> {
                Check.tape(mail, tape);
                return mail.see();
            }, 1);
        }
        ahead = mail -> { };
        number("see() without letters", mail -> Texts.see(mail, 0, 0, 1), 1);
        number("see() without a tape", mail -> mail.see(), 1);
    }

    private static void answers() {
        ahead = RefusalsTest::busy;
        number("answer() of what is answered, by the same", mail -> mail.answer(0, 0), 2);
        number("answer() of what is answered, by another", mail -> mail.answer(0, 1), 2);
        number("answer() by one who can't bear it", mail -> mail.answer(2, 0), 2);
        ahead = mail -> {
            busy(mail);
            mail.answer(1, 1);
        };
        number("answer() without minutes", mail -> mail.answer(2, 1), 2);
        ahead = RefusalsTest::busy;
        number("answer() of a letter behind the last", mail -> mail.answer(3, 0), 2);
        number("answer() by a helper behind the last", mail -> mail.answer(1, 2), 2);
        for (int n : OUTSIDE) {
            number("answer() of letter " + n, mail -> mail.answer(n, 0), 2);
            number("answer() by helper " + n, mail -> mail.answer(1, n), 2);
        }
        ahead = mail -> { };
        number("answer() without a heap", mail -> mail.answer(0, 0), 2);
    }

    private static void sheets() {
        ahead = RefusalsTest::busy;
        truth("sheet() that it has", mail -> told(mail.sheet(0, 1)), 2);
        truth("sheet() that one near has", mail -> told(mail.sheet(1, 1)), 2);
        truth("sheet() 0", mail -> told(mail.sheet(1, 0)), 2);
        truth("sheet() 0 for what has one", mail -> told(mail.sheet(0, 0)), 2);
        truth("sheet() 5", mail -> told(mail.sheet(1, 5)), 2);
        truth("sheet() of a letter behind the last", mail -> told(mail.sheet(3, 1)), 2);
        for (int n : OUTSIDE) {
            truth("sheet() of letter " + n, mail -> told(mail.sheet(n, 1)), 2);
            truth("sheet() of kind " + n, mail -> told(mail.sheet(1, n)), 2);
        }
        ahead = mail -> { };
        truth("sheet() without a heap", mail -> told(mail.sheet(0, 1)), 2);
    }

    private static void gives() {
        ahead = RefusalsTest::busy;
        number("give() to what has the same", mail -> mail.give(0, 0), 2);
        number("give() to what has another", mail -> mail.give(0, 1), 2);
        number("give() of what is given away", mail -> mail.give(1, 0), 2);
        number("give() of what there was never one of", mail -> mail.give(1, 2), 2);
        number("give() to a letter behind the last", mail -> mail.give(3, 1), 2);
        number("give() of a gift behind the last", mail -> mail.give(1, 3), 2);
        for (int n : OUTSIDE) {
            number("give() to letter " + n, mail -> mail.give(n, 1), 2);
            number("give() of gift " + n, mail -> mail.give(1, n), 2);
        }
        ahead = mail -> { };
        number("give() without a heap", mail -> mail.give(0, 0), 2);
    }

    private static void evenings() {
        ahead = RefusalsTest::busy;
        noEvenings(0, 51, 52, -1, -50, Texts.MOST, Texts.LEAST);
        ahead = mail -> { };
        noEvenings(0, 51, -1);
        ahead = mail -> busyOn(mail, 999);
        noEvenings(1, 2, 50, 51, Texts.MOST);
        ahead = mail -> busyOn(mail, 998);
        noEvenings(2, 3, 50);
        ahead = mail -> busyOn(mail, 950);
        noEvenings(50);
    }

    private static void noEvenings(int... refused) {
        for (int n : refused) {
            number("evenings(" + n + ")", mail -> mail.evenings(n), 3);
            number("chance(" + n + ")", mail -> mail.chance(n), 3);
        }
    }

    private static void undoes() {
        ahead = mail -> { };
        truth("undo() of a new object", mail -> told(mail.undo()), 4);
        ahead = mail -> {
            busy(mail);
            Check.heap(mail, "letter a age 3 need 4 grave 0;");
        };
        truth("undo() behind heap()", mail -> told(mail.undo()), 4);
        ahead = mail -> {
            busy(mail);
            Texts.onDay(mail, 7);
        };
        truth("undo() behind on()", mail -> told(mail.undo()), 4);
        ahead = mail -> {
            busy(mail);
            mail.undo();
            mail.undo();
            mail.undo();
        };
        truth("undo() behind all undone", mail -> told(mail.undo()), 4);
        ahead = mail -> {
            for (int k = 0; k < 21; k++) {
                mail.evenings(1);
            }
            for (int k = 0; k < 20; k++) {
                mail.undo();
            }
        };
        truth("undo() of the act behind 20", mail -> told(mail.undo()), 4);
    }

    private static void seeds() {
        ahead = mail -> { };
        truth("seed(-1) of a new object", mail -> told(mail.seed(-1)), 5);
        ahead = RefusalsTest::busy;
        truth("seed(-1)", mail -> told(mail.seed(-1)), 5);
        truth("seed(LEAST)", mail -> told(mail.seed(Texts.LEAST)), 5);
    }

    private static void ons() {
        ahead = RefusalsTest::busy;
        int[] good = {0, 5, 60, 45, 1, 2, 0, 1, 2, 1, 2, 1, 0, 0, 0, 3};
        check.due("on() that is refused in parts below", Texts.on(made(), good), true);
        int[][] wrong = {{0, 4}, {0, 255}, {2, 61}, {3, 46}, {4, 2}, {5, 3}, {6, 1}, {7, 3}, {10, 3}, {13, 3}, {8, 5},
            {8, 1}, {11, 2}, {14, 5}, {9, 4}, {12, 4}, {15, 4}, {7, 255}, {8, 255}, {9, 255}, {2, 255}, {4, 255}};
        for (int[] each : wrong) {
            int[] bytes = good.clone();
            bytes[each[0]] = each[1];
            truth("on() with " + each[1] + " at " + each[0], mail -> told(Texts.on(mail, bytes)), 5);
        }
        String image = Texts.image(good);
        String[] tapes = {"", image.substring(0, 1), image.substring(0, image.length() - 1), image + image.charAt(0),
            image + image, Texts.image(0, 5), Texts.image(Arrays.copyOf(good, good.length + 1)),
            Texts.image(Arrays.copyOf(good, good.length - 1)), Texts.image(Arrays.copyOf(good, 13))};
        for (String tape : tapes) {
            truth("on() of " + tape.length() + " bytes", mail -> onOf(mail, tape), 5);
        }
        for (int by : new int[] {1, 2, 128, 255}) {
            int last = image.length() - 1;
            String other = image.substring(0, last) + (char) (image.charAt(last) ^ by);
            truth("on() with another last byte " + by, mail -> onOf(mail, other), 5);
        }
        ahead = mail -> { };
        truth("on() without a tape", mail -> told(mail.on()), 5);
        truth("on() of day 1000", mail -> told(Texts.on(mail, 3, 232)), 5);
    }

    private static long onOf(DearLetters mail, String tape) {
        Check.tape(mail, tape);
        return told(mail.on());
    }

    /** A question with a fault is counted nowhere. */
    private static void asks() {
        List<Consumer<DearLetters>> all = List.of(mail -> { }, RefusalsTest::busy);
        for (Consumer<DearLetters> each : all) {
            ahead = each;
            for (String text : new String[] {"", "x", "total", "total 1;", "first all all", "total ((((((("}) {
                refused("ask() of " + text, mail -> Check.ask(mail, text), DearLetters.NOTHING, NOWHERE, true);
            }
        }
    }

    /** Calls that only tell something are counted nowhere, whatever they are asked. */
    private static void readings() {
        ahead = RefusalsTest::busy;
        for (int n : new int[] {-2, 99, Texts.LEAST, Texts.MOST}) {
            number("fault(" + n + ")", mail -> mail.fault(n), NOWHERE);
            number("has(" + n + ")", mail -> mail.has(n), NOWHERE);
            number("letter(" + n + ")", mail -> mail.letter(n, 0, 0), NOWHERE);
            number("mail(" + n + ")", mail -> mail.mail(n, 0), NOWHERE);
            number("gift(" + n + ")", mail -> mail.gift(n, 0), NOWHERE);
            number("helper(" + n + ")", mail -> mail.helper(n, 0), NOWHERE);
            number("takes(" + n + ")", mail -> mail.takes(n, 0), NOWHERE);
            refused("warmth(" + n + ")", mail -> mail.warmth(n, 0), DearLetters.NOTHING, NOWHERE, false);
            number("can(" + n + ")", mail -> mail.can(n, 0), NOWHERE);
            number("warmest(" + n + ")", mail -> mail.warmest(n), NOWHERE);
            number("later(" + n + ")", mail -> mail.later(n), NOWHERE);
            number("sheets(" + n + ")", mail -> mail.sheets(n), NOWHERE);
            number("shared(" + n + ")", mail -> mail.shared(n), NOWHERE);
            number("tell(" + n + ")", mail -> mail.tell(n), NOWHERE);
            number("children(" + n + ")", mail -> mail.children(n), NOWHERE);
            number("watched(" + n + ")", mail -> mail.watched(n), NOWHERE);
            number("octet(" + n + ")", mail -> mail.octet(n), NOWHERE);
            number("status(" + n + ")", mail -> mail.status(n), NOWHERE);
        }
        refused("later(30)", mail -> mail.later(30), 3, NOWHERE, false);
        refused("finished()", mail -> mail.finished(), 1, NOWHERE, false);
        refused("warms()", mail -> mail.warms(), 9, NOWHERE, false);
        refused("ask()", mail -> Check.ask(mail, "total 1"), 3, NOWHERE, true);
    }

    /** A tape that stays when acts are refused goes where the document says so, good or not. */
    private static void tapes() {
        for (int k = 0; k < 4; k++) {
            DearLetters mail = new DearLetters();
            Check.tape(mail, "?");
            long answer = k == 0 ? mail.heap() : k == 1 ? mail.see() : k == 2 ? mail.ask() : told(mail.on());
            check.due("the tape's call " + k, answer, k == 2 ? DearLetters.NOTHING : k == 3 ? 0 : NONE);
            check.due("the tape is gone, call " + k, mail.feed(0, 0, 0, 0, 0), 20);
        }
        DearLetters mail = new DearLetters();
        Check.tape(mail, "total 1");
        mail.answer(0, 0);
        mail.sheet(0, 0);
        mail.give(0, 0);
        mail.evenings(0);
        mail.chance(0);
        mail.undo();
        mail.seed(-1);
        mail.evenings(1);
        mail.undo();
        mail.image();
        check.due("the tape stays by acts", mail.ask(), 0);
        check.due("the tape stays by acts", mail.fault(0), 0);
    }
}
