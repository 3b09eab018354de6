/** What the tests share: answers compared, texts put onto the tape, draws that are the same each time. */
final class Check {
    private static final int SHOWN_MOST = 40;
    private final String test;
    private int wrong;
    private int looked;
    private long state = 20261118;

    Check(String test) {
        this.test = test;
    }

    void due(String call, long got, long want) {
        looked++;
        if (got != want) {
            wrong++;
            if (wrong <= SHOWN_MOST) {
                System.out.println(test + ": " + call + " answered " + got + ", due is " + want);
            }
        }
    }

    void due(String call, boolean got, boolean want) {
        due(call, got ? 1 : 0, want ? 1 : 0);
    }

    boolean isClean() {
        return wrong == 0;
    }

    void finish() {
        System.out.println(test + ": " + looked + " answers, " + wrong + " not as due");
        if (wrong != 0 || looked == 0) {
            System.exit(1);
        }
    }

    /** A draw from 0 to below m. */
    int draw(int m) {
        state = state * 6364136223846793005L + 1442695040888963407L;
        return (int) ((state >>> 33) % m);
    }

    void seedDraws(long seed) {
        state = seed;
    }

    static void tape(DearLetters mail, String text) {
        mail.end(0);
        int[] n = new int[5];
        for (int from = 0; from < text.length(); from += 20) {
            for (int k = 0; k < 5; k++) {
                n[k] = 0;
                for (int i = 0; i < 4; i++) {
                    int at = from + 4 * k + i;
                    n[k] = n[k] << 8 | (at < text.length() ? text.charAt(at) & 255 : 32);
                }
            }
            mail.feed(n[0], n[1], n[2], n[3], n[4]);
        }
        mail.end(text.length());
    }

    static int heap(DearLetters mail, String text) {
        tape(mail, text);
        return mail.heap();
    }

    static long ask(DearLetters mail, String text) {
        tape(mail, text);
        return mail.ask();
    }

    static String bytes(int... bytes) {
        StringBuilder all = new StringBuilder();
        for (int each : bytes) {
            all.append((char) each);
        }
        return all.toString();
    }

    static String image(DearLetters mail) {
        StringBuilder all = new StringBuilder();
        int size = mail.image();
        for (int k = 0; k < size; k++) {
            all.append((char) mail.octet(k));
        }
        return all.toString();
    }
}
