/** Texts and images that the tests tell: letters a to h, gifts p to s, helpers x to z. */
final class Texts {
    static final int NONE = -1;
    static final int MOST = Integer.MAX_VALUE;
    static final int LEAST = Integer.MIN_VALUE;
    static final String[] OWN_WORDS = ("letter age need grave gift stock wish near like helper time hand bears takes "
            + "warm missed cold wishes day number sheet done or and not all min max").split(" ");
    static final String[] ASKING_WORDS = "first last often total most least".split(" ");

    private Texts() {
    }

    static String letters(int n) {
        return letters(n, "age 1 need 1 grave 1");
    }

    static String letters(int n, String numbers) {
        return named("letter", 'a', n, numbers);
    }

    static String gifts(int n, int stock) {
        return named("gift", 'p', n, "stock " + stock);
    }

    static String helpers(int n, String numbers) {
        return named("helper", 'x', n, numbers);
    }

    private static String named(String word, char first, int n, String numbers) {
        StringBuilder all = new StringBuilder();
        for (int k = 0; k < n; k++) {
            all.append(word).append(' ').append((char) (first + k)).append(' ').append(numbers).append(';');
        }
        return all.toString();
    }

    /** The first n pairs of the letters a to h, each told once. */
    static String pairs(String word, int n, String end) {
        StringBuilder all = new StringBuilder();
        int count = 0;
        for (char one = 'a'; one <= 'h'; one++) {
            for (char other = 'a'; other < one && count < n; other++) {
                all.append(word).append(' ').append(one).append(' ').append(other).append(end).append(';');
                count++;
            }
        }
        return all.toString();
    }

    /** These bytes with the last byte of an image behind them. */
    static String image(int... bytes) {
        int c = 89;
        for (int each : bytes) {
            c = (3 * c + each) % 251;
        }
        return Check.bytes(bytes) + (char) c;
    }

    static boolean on(DearLetters mail, int... bytes) {
        Check.tape(mail, image(bytes));
        return mail.on();
    }

    /** Goes on from an image of all as it is, but for the day. */
    static boolean onDay(DearLetters mail, int day) {
        String old = Check.image(mail);
        int[] bytes = new int[old.length() - 1];
        for (int k = 0; k < bytes.length; k++) {
            bytes[k] = old.charAt(k);
        }
        bytes[0] = day / 256;
        bytes[1] = day % 256;
        return on(mail, bytes);
    }

    static int see(DearLetters mail, int... bytes) {
        Check.tape(mail, Check.bytes(bytes));
        return mail.see();
    }

    static DearLetters told(Check check, String text) {
        DearLetters mail = new DearLetters();
        check.due("heap \"" + text + "\" has no fault", Check.heap(mail, text) >= 0, true);
        return mail;
    }
}
