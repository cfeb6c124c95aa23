import java.nio.charset.StandardCharsets;
import java.util.Arrays;

/** What the tests by hand share: to feed texts, to ask, and to tell what was not as due. */
abstract class Asker {
    static final String INDEX = "IndexOutOfBoundsException";
    static final String ARGUMENT = "IllegalArgumentException";
    static final String STATE = "IllegalStateException";
    static final String ELEMENT = "NoSuchElementException";
    static final String UNSUPPORTED = "UnsupportedOperationException";

    interface Call {
        void make();
    }

    private static int wrong = 0;
    private static int asked = 0;

    static void say(String what) {
        wrong++;
        System.out.println(what);
    }

    static void due(String what, long got, long want) {
        asked++;
        if (got != want) {
            say(what + " answered " + got + ", due is " + want);
        }
    }

    static void dueThrow(String what, String want, Call call) {
        String got = "nothing";
        try {
            call.make();
        } catch (RuntimeException e) {
            got = e.getClass().getSimpleName();
        }
        asked++;
        if (!got.equals(want)) {
            say(what + " threw " + got + ", due is " + want);
        }
    }

    /** Puts a text on the tape in place of what it has. */
    static void feed(MeanMan x, String text) {
        byte[] bytes = text.getBytes(StandardCharsets.ISO_8859_1);
        byte[] whole = Arrays.copyOf(bytes, (bytes.length + 19) / 20 * 20);
        x.end(0);
        for (int i = 0; i < whole.length; i += 20) {
            int[] n = new int[5];
            for (int j = 0; j < 20; j++) {
                n[j / 4] = n[j / 4] << 8 | whole[i + j] & 255;
            }
            x.feed(n[0], n[1], n[2], n[3], n[4]);
        }
        x.end(bytes.length);
    }

    static MeanMan hall(String text) {
        return hall(new MeanMan(), text);
    }

    static MeanMan hall(MeanMan x, String text) {
        feed(x, text);
        x.hall();
        return x;
    }

    static MeanMan law(MeanMan x, String text) {
        feed(x, text);
        x.law();
        return x;
    }

    /** People with these numbers in kind 0, weight 1 each, and a rule of kind 0. */
    static MeanMan row(int rule, int... numbers) {
        StringBuilder text = new StringBuilder("rule 0 " + rule);
        for (int v : numbers) {
            text.append(";person ").append(v).append(" 0 0 0 weight 1");
        }
        return hall(text.toString());
    }

    /** Ends the program with 1 if something was wrong. */
    static void finish() {
        System.out.println(asked + " answers asked, " + wrong + " wrong");
        if (wrong != 0) {
            System.exit(1);
        }
    }
}
