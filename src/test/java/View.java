/**
 * All that can be seen of an object but what was refused and the latest fault, as a text. It uses the object up: two
 * objects are compared, of which one has had a call that the other has not.
 */
final class View {
    private final DearLetters mail;
    private final int letters;
    private final int gifts;
    private final int helpers;
    private final StringBuilder all = new StringBuilder();

    private View(DearLetters mail) {
        this.mail = mail;
        letters = mail.has(0);
        gifts = mail.has(1);
        helpers = mail.has(2);
    }

    static String of(DearLetters mail) {
        View view = new View(mail);
        view.octets();
        view.heap();
        view.state();
        view.plans();
        view.tape();
        view.seed();
        view.past();
        return view.all.toString();
    }

    private void add(String call, long answer) {
        all.append(call).append('=').append(answer).append(' ');
    }

    private void octets() {
        int latest = 0;
        for (int k = 0; latest != -1; k++) {
            latest = mail.octet(k);
            add("octet" + k, latest);
        }
    }

    private void heap() {
        int[] counts = {letters, gifts, helpers};
        for (int kind = 0; kind < 3; kind++) {
            for (int which = 0; which < counts[kind]; which++) {
                add("letter" + kind + which, mail.letter(kind, which, 0));
            }
        }
        for (int letter = 0; letter < letters; letter++) {
            for (int gift = 0; gift < gifts; gift++) {
                add("wish" + letter + gift, mail.gift(gift, 10 + letter));
            }
        }
        add("tell", mail.tell(0));
        add("lost", mail.tell(1));
    }

    private void state() {
        for (int what = 0; what < 12; what++) {
            add("has" + what, mail.has(what));
        }
        for (int letter = 0; letter < letters; letter++) {
            for (int what = 0; what < 8; what++) {
                add("mail" + letter + what, mail.mail(letter, what));
            }
        }
        for (int gift = 0; gift < gifts; gift++) {
            add("stock" + gift, mail.gift(gift, 0));
        }
        for (int helper = 0; helper < helpers; helper++) {
            for (int what = 0; what < 5; what++) {
                add("helper" + helper + what, mail.helper(helper, what));
            }
            for (int letter = 0; letter < letters; letter++) {
                add("takes" + letter + helper, mail.takes(letter, helper));
                add("warmth" + letter + helper, mail.warmth(letter, helper));
                add("can" + letter + helper, mail.can(letter, helper));
            }
        }
    }

    private void plans() {
        for (int letter = -1; letter < letters; letter++) {
            add("warmest" + letter, mail.warmest(letter));
            add("sheets" + letter, mail.sheets(letter));
            add("shared" + letter, mail.shared(letter));
            add("children" + letter, mail.children(letter));
        }
        add("warms", mail.warms());
        add("later", mail.later(1));
        add("finished", mail.finished());
        add("whose", mail.whose());
        add("watched", mail.watched(0));
        add("most", mail.watched(1));
    }

    /** The place of the fault tells how far the tape is a question, up to the byte that is fed here. */
    private void tape() {
        add("feed", mail.feed(0x3b202020, 0x20202020, 0x20202020, 0x20202020, 0x20202020));
        add("ask", mail.ask());
        add("fault", mail.fault(0));
        add("place", mail.fault(1));
    }

    private void seed() {
        add("chance", mail.chance(9));
        add("image", mail.image());
        octets();
    }

    private void past() {
        for (int k = 0; k < 21 && mail.undo(); k++) {
            for (int what = 5; what < 10; what++) {
                add("past" + what, mail.has(what));
            }
        }
    }
}
