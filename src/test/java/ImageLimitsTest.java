import java.util.Arrays;

/** AN IMAGE of Term IV and promises 33 to 35, byte by byte. */
public final class ImageLimitsTest {
    private static final int NONE = Texts.NONE;
    private static final Check check = new Check("ImageLimitsTest");

    public static void main(String[] args) {
        sizes();
        bytesAtFirst();
        bytesBehindActs();
        dayBytes();
        latestImage();
        octetPlaces();
        dayMost();
        minutesMost();
        stockMost();
        helpersThatThereAre();
        giftsThatThereAre();
        sheetsMost();
        sheetsNear();
        lastByte();
        lengths();
        stockNeedNotGo();
        asItTells();
        thisHeapAlone();
        fullHeap();
        roundTrips();
        check.finish();
    }

    private static DearLetters told(String text) {
        return Texts.told(check, text);
    }

    private static void due(String call, long got, long want) {
        check.due(call, got, want);
    }

    private static void due(String call, boolean got, boolean want) {
        check.due(call, got, want);
    }

    private static void sizes() {
        due("a new object", new DearLetters().image(), 3);
        due("an empty heap", told("").image(), 3);
        for (int helpers = 0; helpers <= 3; helpers++) {
            for (int gifts = 0; gifts <= 4; gifts += 2) {
                for (int letters : new int[] {0, 1, 7, 8}) {
                    String text = Texts.letters(letters) + Texts.gifts(gifts, 1)
                            + Texts.helpers(helpers, "time 9 hand 1 bears 1");
                    due("image() of " + letters + ", " + gifts + ", " + helpers, told(text).image(),
                            3 + helpers + gifts + 3 * letters);
                }
            }
        }
    }

    private static void image(String what, DearLetters mail, int... bytes) {
        String want = Texts.image(bytes);
        due(what + ", size", mail.image(), want.length());
        for (int k = 0; k < want.length(); k++) {
            due(what + ", octet(" + k + ")", mail.octet(k), want.charAt(k));
        }
        due(what + ", behind it", mail.octet(want.length()), NONE);
    }

    private static void bytesAtFirst() {
        image("a new object", new DearLetters(), 0, 0);
        // From 89 on: 267 is 16, then 48 by 251.
        DearLetters mail = new DearLetters();
        mail.image();
        due("the last byte of a new object's", mail.octet(2), 48);
        image("helpers, then gifts, then letters", told("helper x time 240 hand 1 bears 1;helper y time 1 hand 1 bears 1;"
                + "gift p stock 3;gift q stock 0;letter a age 20 need 9 grave 10;"), 0, 0, 240, 1, 3, 0, 0, 0, 0);
    }

    private static void bytesBehindActs() {
        DearLetters mail = told(Texts.letters(2) + Texts.gifts(2, 3) + Texts.helpers(3, "time 100 hand 1 bears 1"));
        mail.answer(1, 2);
        image("answered", mail, 0, 0, 100, 100, 80, 3, 3, 0, 0, 0, 3, 0, 0);
        mail.sheet(1, 4);
        image("a sheet", mail, 0, 0, 100, 100, 80, 3, 3, 0, 0, 0, 3, 4, 0);
        mail.give(0, 1);
        image("a gift", mail, 0, 0, 100, 100, 80, 3, 2, 0, 0, 2, 3, 4, 0);
        mail.answer(0, 0);
        image("answered by the first", mail, 0, 0, 80, 100, 80, 3, 2, 1, 0, 2, 3, 4, 0);
        mail.evenings(3);
        image("evenings", mail, 0, 3, 100, 100, 100, 3, 2, 1, 0, 2, 3, 4, 0);
        mail.undo();
        image("undone", mail, 0, 0, 80, 100, 80, 3, 2, 1, 0, 2, 3, 4, 0);
    }

    private static void dayBytes() {
        for (int day : new int[] {0, 1, 255, 256, 257, 511, 512, 767, 768, 998, 999}) {
            DearLetters mail = told("");
            due("on() to day " + day, Texts.on(mail, day / 256, day % 256), true);
            due("day " + day, mail.has(5), day);
            image("day " + day, mail, day / 256, day % 256);
        }
    }

    private static void latestImage() {
        DearLetters mail = told(Texts.letters(1));
        due("ahead of any", mail.octet(0), NONE);
        mail.image();
        mail.sheet(0, 3);
        due("acts leave it", mail.octet(3), 0);
        mail.image();
        due("the latest", mail.octet(3), 3);
        Check.heap(mail, "");
        due("a heap leaves it", mail.octet(3), 3);
        due("a heap leaves its size", mail.octet(5) != NONE, true);
        Texts.on(mail, 0, 9);
        due("on() leaves it", mail.octet(3), 3);
        mail.image();
        due("the latest is shorter", mail.octet(3), NONE);
        due("the latest", mail.octet(1), 9);
    }

    private static void octetPlaces() {
        DearLetters mail = told(Texts.letters(8) + Texts.gifts(4, 3) + Texts.helpers(3, "time 9 hand 1 bears 1"));
        for (int k : new int[] {0, 33, 34}) {
            due("ahead of any, octet(" + k + ")", mail.octet(k), NONE);
        }
        due("the longest", mail.image(), 34);
        for (int k : new int[] {-1, -2, 34, 35, Texts.LEAST, Texts.MOST}) {
            due("octet(" + k + ")", mail.octet(k), NONE);
        }
        due("octet(0)", mail.octet(0), 0);
        due("octet(33)", mail.octet(33) != NONE, true);
    }

    private static final String HEAP = "helper x time 60 hand 1 bears 1;helper y time 240 hand 1 bears 1;gift p stock 2;"
            + "gift q stock 0;gift r stock 3;letter a age 1 need 1 grave 1;letter b age 1 need 1 grave 9;"
            + "letter c age 1 need 1 grave 1;near a b;";

    /** An image of HEAP but for one byte. */
    private static void with(int at, int value, boolean good) {
        int[] bytes = {0, 9, 30, 30, 1, 0, 1, 0, 0, 0, 0, 0, 0, 0, 0, 0};
        bytes[at] = value;
        DearLetters mail = told(HEAP);
        mail.sheet(2, 2);
        due("on() with " + value + " at " + at, Texts.on(mail, bytes), good);
        due("on() with " + value + " at " + at + ", refused", mail.status(5), good ? 0 : 1);
        due("on() with " + value + " at " + at + ", acts", mail.has(11), good ? 0 : 1);
        due("on() with " + value + " at " + at + ", the tape goes", mail.feed(0, 0, 0, 0, 0), 20);
        if (good) {
            image("on() with " + value + " at " + at, mail, bytes);
        } else {
            image("on() with " + value + " at " + at, mail, 0, 0, 60, 240, 2, 0, 3, 0, 0, 0, 0, 0, 0, 0, 2, 0);
        }
    }

    private static void dayMost() {
        for (int day : new int[] {0, 1, 998, 999, 1000, 1001, 1023, 1024, 32768, 65535}) {
            DearLetters mail = told("");
            mail.evenings(7);
            due("on() to day " + day, Texts.on(mail, day / 256, day % 256), day <= 999);
            due("the day", mail.has(5), day <= 999 ? day : 7);
            due("refused", mail.status(5), day <= 999 ? 0 : 1);
        }
        with(0, 3, true);
        with(0, 4, false);
    }

    private static void minutesMost() {
        with(2, 0, true);
        with(2, 59, true);
        with(2, 60, true);
        with(2, 61, false);
        with(2, 255, false);
        with(3, 240, true);
        with(3, 241, false);
    }

    private static void stockMost() {
        with(4, 0, true);
        with(4, 2, true);
        with(4, 3, false);
        with(4, 4, false);
        with(5, 0, true);
        with(5, 1, false);
        with(6, 3, true);
        with(6, 4, false);
        with(6, 255, false);
    }

    private static void helpersThatThereAre() {
        for (int at : new int[] {7, 10, 13}) {
            with(at, 0, true);
            with(at, 1, true);
            with(at, 2, true);
            with(at, 3, false);
            with(at, 255, false);
        }
    }

    private static void giftsThatThereAre() {
        for (int at : new int[] {9, 12, 15}) {
            with(at, 0, true);
            with(at, 1, true);
            with(at, 3, true);
            with(at, 4, false);
            with(at, 255, false);
        }
    }

    private static void sheetsMost() {
        for (int at : new int[] {8, 11, 14}) {
            with(at, 0, true);
            with(at, 1, true);
            with(at, 4, true);
            with(at, 5, false);
            with(at, 255, false);
        }
    }

    private static void sheetsNear() {
        for (int a = 0; a <= 4; a++) {
            for (int b = 0; b <= 4; b++) {
                DearLetters mail = told(HEAP);
                boolean good = a == 0 || a != b;
                due("near with " + a + " and " + b, Texts.on(mail, 0, 0, 0, 0, 0, 0, 0, 0, a, 0, 0, b, 0, 0, a, 0), good);
                due("with a sheet", mail.has(7), good ? (a > 0 ? 2 : 0) + (b > 0 ? 1 : 0) : 0);
            }
        }
    }

    private static void lastByte() {
        int last = Texts.image(0, 5).charAt(2);
        for (int value = 0; value < 256; value++) {
            DearLetters mail = told("");
            Check.tape(mail, Check.bytes(0, 5, value));
            due("a last byte of " + value, mail.on(), value == last);
        }
        // A last byte that is the same by 251 is another one.
        for (int day = 0; day < 256; day++) {
            int c = Texts.image(0, day).charAt(2);
            due("from 89 on", c, (3 * (3 * 89 % 251) + day) % 251);
            if (c <= 4) {
                DearLetters mail = told("");
                Check.tape(mail, Check.bytes(0, day, c + 251));
                due("a last byte of " + (c + 251), mail.on(), false);
            }
        }
        // Each byte counts at its place.
        DearLetters mail = told(HEAP);
        String image = Check.image(mail);
        for (int at = 0; at < image.length() - 1; at++) {
            StringBuilder other = new StringBuilder(image);
            other.setCharAt(at, (char) (image.charAt(at) ^ 1));
            Check.tape(mail, other.toString());
            due("another byte at " + at, mail.on(), false);
        }
    }

    private static void lengths() {
        int[] good = {0, 9, 30, 30, 1, 0, 1, 0, 0, 0, 0, 0, 0, 0, 0, 0};
        for (int length = 0; length <= 20; length++) {
            DearLetters mail = told(HEAP);
            due("an image of " + (length + 1), Texts.on(mail, Arrays.copyOf(good, length)), length == 16);
        }
        DearLetters mail = told(HEAP);
        due("no tape", mail.on(), false);
        Check.tape(mail, Texts.image(good) + " ");
        due("a byte behind it", mail.on(), false);
        Check.tape(mail, Texts.image(good).repeat(94));
        due("many of them", mail.on(), false);
        due("a new object's", Texts.on(new DearLetters(), 0, 0), true);
        DearLetters none = new DearLetters();
        Check.tape(none, Check.bytes(48));
        due("a byte alone", none.on(), false);
    }

    private static void stockNeedNotGo() {
        DearLetters mail = told(HEAP);
        due("all given, all of the stock left", Texts.on(mail, 0, 0, 0, 0, 2, 0, 3, 0, 0, 2, 0, 0, 2, 0, 0, 2), true);
        due("three have what there was never one of", mail.has(8), 3);
        due("none given, none left", Texts.on(mail, 0, 0, 0, 0, 0, 0, 0, 0, 0, 0, 0, 0, 0, 0, 0, 0), true);
        due("none left", mail.give(0, 0), NONE);
        // Nor the minutes with what was answered, nor who with what he bears.
        due("answered, all minutes left", Texts.on(mail, 0, 0, 60, 240, 0, 0, 0, 1, 0, 0, 1, 0, 0, 1, 0, 0), true);
        due("answered by one who can't bear it", mail.mail(1, 3), 0);
    }

    private static void asItTells() {
        DearLetters mail = told(HEAP);
        mail.seed(5);
        Texts.see(mail, 0, 0, 20);
        mail.answer(0, 0);
        due("on()", Texts.on(mail, 1, 2, 3, 4, 1, 0, 2, 2, 3, 1, 0, 4, 0, 1, 3, 3), true);
        due("day", mail.has(5), 258);
        due("minutes of x", mail.helper(0, 3), 3);
        due("minutes of y", mail.helper(1, 3), 4);
        due("minutes as told", mail.helper(1, 0), 240);
        due("stock of p", mail.gift(0, 0), 1);
        due("stock of r", mail.gift(2, 0), 2);
        int[][] letters = {{1, 3, 0}, {NONE, 4, NONE}, {0, 3, 2}};
        for (int letter = 0; letter < 3; letter++) {
            for (int what = 0; what < 3; what++) {
                due("mail(" + letter + ", " + (3 + what) + ")", mail.mail(letter, 3 + what), letters[letter][what]);
            }
        }
        due("answered", mail.has(6), 2);
        due("with a sheet", mail.has(7), 3);
        due("with a gift", mail.has(8), 2);
        due("minutes left", mail.has(9), 7);
        due("minutes seen stay", mail.has(10), 1);
        due("nothing can be undone", mail.has(11), 0);
        due("undo", mail.undo(), false);
        due("an evening from it", mail.evenings(1), 0);
        due("then minutes as told", mail.has(9), 300);
        due("undone to it", mail.undo(), true);
        due("minutes left", mail.has(9), 7);
    }

    private static void thisHeapAlone() {
        String one = Check.image(told(Texts.letters(1)));
        DearLetters other = told(Texts.gifts(3, 0));
        Check.tape(other, one);
        due("of another heap that has as many bytes, and fits", other.on(), true);
        DearLetters two = told(Texts.letters(2));
        Check.tape(two, one);
        due("of a smaller heap", two.on(), false);
        Check.tape(two, Check.image(told(Texts.letters(3))));
        due("of a greater heap", two.on(), false);
        Check.heap(two, Texts.letters(1));
        Check.tape(two, one);
        due("of the heap that is told now", two.on(), true);
    }

    /** Eight letters, four gifts, three helpers: each byte at its most. */
    private static void fullHeap() {
        String heap = Texts.letters(8) + Texts.gifts(4, 3) + Texts.helpers(3, "time 240 hand 1 bears 1");
        int[] most = new int[33];
        Arrays.fill(most, 2, 5, 240);
        Arrays.fill(most, 5, 9, 3);
        most[0] = 3;
        most[1] = 231;
        for (int k = 9; k < 33; k += 3) {
            most[k] = 3;
            most[k + 1] = 4;
            most[k + 2] = 4;
        }
        DearLetters mail = told(heap);
        due("the most of each byte", Texts.on(mail, most), true);
        image("the most of each byte", mail, most);
        due("all answered by the last", mail.helper(2, 4), 255);
        for (int k = 0; k < 33; k++) {
            int[] more = most.clone();
            more[k]++;
            due("one more at " + k, Texts.on(told(heap), more), false);
        }
        // Nothing of it is left in a smaller heap.
        mail.later(0);
        mail.finished();
        Check.heap(mail, Texts.letters(1));
        due("an image of one letter", Texts.on(mail, 0, 0, 0, 0, 0), true);
        due("answered, with a sheet, with a gift", mail.has(6) + mail.has(7) + mail.has(8), 0);
        due("minutes left", mail.has(9), 0);
        due("later", mail.later(3), 0);
    }

    private static void roundTrips() {
        DearLetters mail = told(HEAP);
        for (int k = 0; k < 12; k++) {
            mail.sheet(k % 3, k % 4 + 1);
            mail.give(k % 3, k % 2 * 2);
            mail.answer(k % 3, k % 2);
            if (k % 4 == 3) {
                mail.chance(k + 1);
            }
            String image = Check.image(mail);
            DearLetters other = told(HEAP);
            Check.tape(other, image);
            due("on() in turn " + k, other.on(), true);
            due("the same image in turn " + k, Check.image(other).equals(image), true);
            due("the same evenings in turn " + k, other.later(3), mail.later(3));
        }
    }
}
