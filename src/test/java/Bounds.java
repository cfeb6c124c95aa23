import java.util.ArrayList;
import java.util.Arrays;
import java.util.HashSet;
import java.util.List;
import java.util.Set;

/** What the tests of boundary cases share: sentences they quote, objects to refuse calls on, and whole comparisons. */
abstract class Bounds extends Asker {
    static final int LEAST_INT = Integer.MIN_VALUE;
    static final int MOST_INT = Integer.MAX_VALUE;

    interface Maker {
        MeanMan make();
    }

    interface Ask {
        long of(MeanMan x, int n);
    }

    private static final Document DOCUMENT = Document.read();
    private static final Set<String> PLACES = new HashSet<>();
    private static String sentence = "";

    /** From here on the tests hold the class against these words of the document. */
    static void sentence(String place, String words) {
        sentence = place + " ('" + words + "'): ";
        PLACES.add(place);
        if (DOCUMENT != null && !DOCUMENT.says(place, words)) {
            say(place + " does not say '" + words + "'");
        }
    }

    /** Every promise, and every sentence of the document, is there. */
    static void allQuoted() {
        List<String> places = new ArrayList<>();
        places.add("Terms");
        for (int promise = 1; promise <= 50; promise++) {
            places.add("Promise " + promise);
        }
        for (String place : places) {
            if (!PLACES.contains(place)) {
                say(place + " has no test of its bounds");
            }
            if (DOCUMENT != null) {
                for (String words : DOCUMENT.unquoted(place)) {
                    say(place + ": no test quotes '" + words + "'");
                }
            }
        }
        if (DOCUMENT == null) {
            System.out.println("there is no document here, so the quoted sentences were not looked up");
        }
    }

    static void is(String what, long got, long want) {
        due(sentence + what, got, want);
    }

    static void is(String what, boolean got, boolean want) {
        due(sentence + what, got ? 1 : 0, want ? 1 : 0);
    }

    static void same(String what, List<String> got, List<String> want) {
        int differ = got.size() == want.size() ? 0 : 1;
        String first = differ == 0 ? "" : got.size() + " answers instead of " + want.size();
        for (int i = 0; i < got.size() && i < want.size(); i++) {
            if (!got.get(i).equals(want.get(i))) {
                first = differ == 0 || first.contains("instead") ? got.get(i) + ", was " + want.get(i) : first;
                differ++;
            }
        }
        due(sentence + what + ": what it changed (" + first + ")", differ, 0);
    }

    /** People in kind 0 by turns: a number, a weight; rule 5. */
    static MeanMan weighed(int... numbersAndWeights) {
        StringBuilder text = new StringBuilder("rule 0 5");
        for (int i = 0; i < numbersAndWeights.length; i += 2) {
            text.append(";person ").append(numbersAndWeights[i]).append(" 0 0 0 weight ").append(numbersAndWeights[i + 1]);
        }
        return hall(text.toString());
    }

    static int[] alike(int v, int many) {
        int[] numbers = new int[many];
        Arrays.fill(numbers, v);
        return numbers;
    }

    /** Three people, one of them stubborn, a law, four days, an image, four acts, a wrong byte, a text on the tape. */
    static MeanMan busy() {
        MeanMan x = hall("person 10 20 30 40 weight 1;person 20 25 50 0 weight 2;person 60 20 70 99 weight 9;"
            + "stubborn 1;rule 1 4;rule 2 5;strike 40;man 7 8 9 6");
        law(x, "toward 3 if apart > 5;up 1 if kind + day > 2");
        x.seed(12345);
        x.days(2);
        x.image();
        x.tell(0, 1, 77);
        x.rule(3, 2);
        x.days(2);
        return waiting(x);
    }

    /** Nobody is there, but a man, a day, an image, two acts, a wrong byte, a text on the tape. */
    static MeanMan empty() {
        MeanMan x = hall("man 5 6 7 8;rule 0 3;strike 100");
        x.image();
        x.rule(1, 3);
        x.days(1);
        return waiting(x);
    }

    /** Eight people and twelve texts, an act, a wrong byte, a text on the tape. */
    static MeanMan full() {
        String four = "person 10 20 30 40 weight 1;person 20 25 50 0 weight 2;person 60 20 70 99 weight 9;"
            + "person 0 99 5 50 weight 4";
        MeanMan x = hall(hall(four), four);
        for (int i = 2; i < 12; i++) {
            x.hall();
        }
        x.tell(7, 3, 51);
        return waiting(x);
    }

    private static MeanMan waiting(MeanMan x) {
        feed(x, "up 1 if ?");
        dueThrow("law of 'up 1 if ?'", ARGUMENT, () -> x.law());
        feed(x, "up 7;up 8");
        return x;
    }

    /** The call throws what is due, and all is as in an object on which it was not made. */
    static void refused(String what, Maker maker, String exception, Ask ask, int n) {
        MeanMan x = maker.make();
        dueThrow(sentence + what, exception, () -> ask.of(x, n));
        same(what, Whole.of(x), Whole.of(maker.make()));
    }

    /** The call throws nothing; one that only tells something leaves all as it was. */
    static void taken(String what, Maker maker, boolean tells, Ask ask, int n) {
        MeanMan x = maker.make();
        dueThrow(sentence + what, "nothing", () -> ask.of(x, n));
        if (tells) {
            same(what, Whole.of(x), Whole.of(maker.make()));
        }
    }

    /** From least to most a number is taken; one less, one more and the ends of int are refused. */
    static void within(String what, Maker maker, boolean tells, String exception, int least, int most, Ask ask) {
        taken(what + " " + least, maker, tells, ask, least);
        taken(what + " " + most, maker, tells, ask, most);
        outside(what, maker, exception, least, most, ask);
    }

    static void outside(String what, Maker maker, String exception, int least, int most, Ask ask) {
        for (int n : new int[] {least - 1, most + 1, LEAST_INT, MOST_INT}) {
            refused(what + " " + n, maker, exception, ask, n);
        }
    }

    /** A person is one of three, of eight, or none is. */
    static void someone(String what, boolean tells, Ask ask) {
        within(what + " of three, person", Bounds::busy, tells, INDEX, 0, 2, ask);
        within(what + " of eight, person", Bounds::full, tells, INDEX, 0, 7, ask);
        outside(what + " of nobody, person", Bounds::empty, INDEX, 0, -1, ask);
    }

    static void refusedHall(String text, Maker maker, String exception, int fault) {
        MeanMan x = maker.make();
        feed(x, text);
        dueThrow(sentence + "hall of '" + text + "'", exception, () -> x.hall());
        afterText("hall of '" + text + "'", x, maker, fault);
    }

    static void refusedLaw(String text, Maker maker, int fault) {
        MeanMan x = maker.make();
        feed(x, text);
        dueThrow(sentence + "law of '" + text + "'", ARGUMENT, () -> x.law());
        afterText("law of '" + text + "'", x, maker, fault);
    }

    /** Nothing but the tape, which is used up, and the first wrong byte is another. */
    private static void afterText(String what, MeanMan x, Maker maker, int fault) {
        MeanMan y = maker.make();
        y.end(0);
        is(what + ", fault", x.fault(), fault);
        is(what + ", a byte left", x.end(1), false);
        List<String> got = Whole.of(x);
        List<String> want = Whole.of(y);
        same(what, got.subList(1, got.size()), want.subList(1, want.size()));
    }

    static void wrongHall(String text, int at) {
        refusedHall(text, Bounds::busy, ARGUMENT, at);
    }

    static void wrongLaw(String text, int at) {
        refusedLaw(text, Bounds::busy, at);
    }

    /** A text of the hall behind those of an object. */
    static MeanMan rightHall(MeanMan x, String text) {
        int texts = x.count(1);
        feed(x, text);
        dueThrow(sentence + "hall of '" + text + "'", "nothing",
            () -> is("hall of '" + text + "'", x.hall(), texts + 1));
        is("hall of '" + text + "', fault", x.fault(), MeanMan.NONE);
        is("hall of '" + text + "', a byte left", x.end(1), false);
        return x;
    }

    static MeanMan rightHall(String text) {
        return rightHall(new MeanMan(), text);
    }

    static MeanMan rightLaw(String text, int lines) {
        MeanMan x = new MeanMan();
        feed(x, text);
        dueThrow(sentence + "law of '" + text + "'", "nothing", () -> is("law of '" + text + "'", x.law(), lines));
        is("law of '" + text + "', fault", x.fault(), MeanMan.NONE);
        is("law of '" + text + "', lines", x.count(2), lines);
        is("law of '" + text + "', a byte left", x.end(1), false);
        return x;
    }
}
