import java.util.ArrayList;
import java.util.List;

/** All that an object tells of itself, asked in a fixed order, at last by calls that change it. */
final class Whole {
    private static final int BLANKS = 0x20202020;

    private final MeanMan x;
    private final List<String> answers = new ArrayList<>();

    private Whole(MeanMan x) {
        this.x = x;
    }

    /** The fault comes first, so that it can be left out. */
    static List<String> of(MeanMan x) {
        Whole whole = new Whole(x);
        whole.add("fault()", x.fault());
        whole.state("");
        whole.days("");
        whole.people("");
        whole.tape();
        whole.acts();
        whole.image();
        whole.text();
        return whole.answers;
    }

    private void add(String what, long answer) {
        answers.add(what + " " + answer);
    }

    private void state(String when) {
        for (int what = -1; what <= 13; what++) {
            add(when + "count(" + what + ")", x.count(what));
        }
        for (int kind = 0; kind < 4; kind++) {
            add(when + "man(" + kind + ")", x.man(kind));
        }
        int people = x.count(0);
        for (int p = 0; p < people; p++) {
            for (int kind = 0; kind < 4; kind++) {
                add(when + "number(" + p + ", " + kind + ")", x.number(p, kind));
            }
        }
        int seed = x.seed(0);
        x.seed(seed);
        add(when + "seed", seed);
    }

    private void people(String when) {
        int people = x.count(0);
        for (int p = 0; p < people; p++) {
            for (int what = 0; what < 3; what++) {
                add(when + "person(" + p + ", " + what + ")", x.person(p, what));
            }
            for (int kind = 0; kind < 4; kind++) {
                add(when + "goes(" + p + ", " + kind + ")", x.goes(p, kind));
            }
        }
    }

    /** Of many rows only the first and the last ones, so that an object is not asked too often. */
    private void days(String when) {
        int rows = x.count(11);
        for (int ago = 0; ago < rows; ago++) {
            for (int what = 0; what < 6 && (ago < 5 || ago > rows - 3); what++) {
                add(when + "log(" + ago + ", " + what + ")", x.log(ago, what));
            }
        }
    }

    private void tape() {
        int longer = x.feed(BLANKS, BLANKS, BLANKS, BLANKS, BLANKS);
        add("tape and 20 more", longer);
        if (longer != MeanMan.NONE) {
            x.end(longer - 20);
        }
    }

    private void acts() {
        for (int i = 1; i <= 13; i++) {
            boolean undone = x.undo();
            add("undo " + i, undone ? 1 : 0);
            if (!undone) {
                return;
            }
            state("undone " + i + ": ");
        }
    }

    private void image() {
        boolean was = x.back();
        add("back()", was ? 1 : 0);
        if (was) {
            state("back: ");
            days("back: ");
            people("back: ");
        }
    }

    /** What is on the tape shows itself when it is read. */
    private void text() {
        try {
            add("law()", x.law());
        } catch (IllegalArgumentException e) {
            add("law() threw, fault()", x.fault());
        }
        people("by the law: ");
    }
}
