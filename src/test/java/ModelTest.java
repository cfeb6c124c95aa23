import java.nio.charset.StandardCharsets;
import java.util.Arrays;
import java.util.Random;

/** Long runs of calls by draws of a fixed seed, each answer compared with the model's. */
public final class ModelTest {
    private static final int RUNS = 300;
    // An object is for at most 512 calls; what asks for all at a run's end makes some 120 of them.
    private static final int MOST_CALLS = 512;
    private static final int CALLS_AHEAD_OF_ALL = 390;

    private interface Call {
        long answer();
    }

    private static Random random;
    private static MeanMan x;
    private static Model m;
    private static String told;
    private static int run;
    private static int calls;
    private static int wrong = 0;
    private static long compared = 0;
    private static long threw = 0;

    private static String outcome(Call call) {
        try {
            return "" + call.answer();
        } catch (RuntimeException e) {
            return "throws." + e.getClass().getSimpleName();
        }
    }

    private static void same(String name, Call ours, Call due) {
        if (calls == MOST_CALLS) {
            return;
        }
        calls++;
        String want = outcome(due);
        String got = outcome(ours);
        compared++;
        if (want.startsWith("throws")) {
            threw++;
        }
        // The model leaves some of fewest open.
        if (!want.equals("-2") && !want.equals(got)) {
            wrong++;
            if (wrong < 40) {
                System.out.println("run " + run + ": " + name + " answered " + got + ", due is " + want
                    + "; latest text: " + told);
            }
        }
    }

    private static int below(int n) {
        return random.nextInt(n);
    }

    private static boolean oneIn(int n) {
        return below(n) == 0;
    }

    /** Mostly from least to most, with both ends often, and now and then outside. */
    private static int about(int least, int most) {
        int way = below(24);
        if (way == 0) {
            return least - 1;
        }
        if (way == 1) {
            return most + 1;
        }
        if (way == 2) {
            return random.nextInt();
        }
        if (way < 5) {
            return way == 3 ? least : most;
        }
        return least + below(most - least + 1);
    }

    private static int who() {
        int people = m.s.people.size();
        return oneIn(30) ? about(0, 8) : below(Math.max(1, people));
    }

    private static int kind() {
        return oneIn(30) ? about(0, 4) : below(4);
    }

    /** Numbers are often near one another, so that there are ties. */
    private static int number() {
        return switch (below(4)) {
            case 0 -> below(100);
            case 1 -> 40 + below(6);
            case 2 -> 10 * below(10);
            default -> oneIn(2) ? 0 : 99;
        };
    }

    private static int middling() {
        if (m.s.people.isEmpty() || oneIn(2)) {
            return about(0, 99);
        }
        return Model.middle(m.s.people, below(4), below(6));
    }

    private static String hallLine() {
        int people = Math.max(1, m.s.people.size());
        String four = number() + " " + number() + " " + number() + " " + number();
        return switch (below(9)) {
            case 0 -> "stubborn " + below(people);
            case 1 -> "rule " + below(4) + " " + below(6);
            case 2 -> "strike " + (oneIn(3) ? 0 : below(101));
            case 3 -> "man " + four;
            case 4 -> "number " + below(people) + " " + below(4) + " " + number();
            default -> "person " + four + " weight " + (1 + below(9));
        };
    }

    private static String part() {
        return switch (below(8)) {
            case 0 -> "who";
            case 1 -> "kind";
            case 2 -> "mine";
            case 3 -> "his";
            case 4 -> "apart";
            case 5 -> "day";
            default -> "" + below(oneIn(4) ? 1000 : 60);
        };
    }

    private static String sum() {
        String sum = part();
        while (oneIn(3)) {
            sum += "+" + part();
        }
        return sum;
    }

    private static String atom(int deep) {
        return switch (below(deep > 5 ? 4 : 7)) {
            case 0 -> "above";
            case 1 -> "below";
            case 2 -> sum() + "<" + sum();
            case 3 -> sum() + " > " + sum();
            case 4 -> "not " + atom(deep + 1);
            default -> "(" + condition(deep + 1) + ")";
        };
    }

    private static String condition(int deep) {
        String c = atom(deep);
        while (oneIn(3)) {
            c += (oneIn(2) ? " and " : " or ") + atom(deep);
        }
        return c;
    }

    private static String lawLine() {
        String way = new String[] {"up", "down", "toward", "toward"}[below(4)];
        String line = way + " " + below(oneIn(5) ? 21 : 5);
        return oneIn(4) ? line : line + " if " + condition(0);
    }

    private static String text(boolean law) {
        StringBuilder text = new StringBuilder();
        int lines = oneIn(20) ? 10 + below(7) : 1 + below(5);
        for (int i = 0; i < lines; i++) {
            text.append(i == 0 ? "" : ";").append(law ? lawLine() : hallLine());
        }
        if (oneIn(25)) {
            return " ".repeat(below(3));
        }
        return oneIn(4) ? spoiled(text.toString()) : text.toString();
    }

    private static String spoiled(String text) {
        String some = ";;;(()<>+0129 az:`{/  notorandifman" + (char) 160 + (char) 255 + (char) 0;
        StringBuilder b = new StringBuilder(text);
        int times = 1 + below(2);
        for (int i = 0; i < times; i++) {
            int at = below(b.length() + 1);
            char sign = some.charAt(below(some.length()));
            switch (below(4)) {
                case 0 -> b.insert(at, sign);
                case 1 -> b.setLength(at);
                case 2 -> b.delete(at, Math.min(b.length(), at + 1));
                default -> {
                    if (at < b.length()) {
                        b.setCharAt(at, sign);
                    }
                }
            }
        }
        return b.toString();
    }

    private static void feed(String text) {
        byte[] bytes = text.getBytes(StandardCharsets.ISO_8859_1);
        byte[] whole = Arrays.copyOf(bytes, (bytes.length + 19) / 20 * 20);
        for (int i = 0; i < whole.length; i += 20) {
            int[] n = new int[5];
            for (int j = 0; j < 20; j++) {
                n[j / 4] = n[j / 4] << 8 | whole[i + j] & 255;
            }
            same("feed", () -> x.feed(n[0], n[1], n[2], n[3], n[4]), () -> m.feed(n));
        }
        int n = oneIn(40) ? below(420) - 5 : bytes.length;
        same("end " + n, () -> x.end(n) ? 1 : 0, () -> m.end(n) ? 1 : 0);
    }

    private static void tellText(boolean law) {
        String text = text(law);
        told = text;
        if (text.length() > 400 && !oneIn(5)) {
            return;
        }
        feed(text);
        if (oneIn(30)) {
            return;
        }
        if (law) {
            same("law", () -> x.law(), () -> m.law());
        } else {
            same("hall", () -> x.hall(), () -> m.hall());
        }
        same("fault", () -> x.fault(), () -> m.fault());
    }

    private static void all() {
        for (int what = -1; what <= 13; what++) {
            int w = what;
            same("count " + w, () -> x.count(w), () -> m.count(w));
        }
        for (int p = 0; p < m.s.people.size(); p++) {
            int who = p;
            for (int what = 0; what < 3; what++) {
                int w = what;
                same("person", () -> x.person(who, w), () -> m.person(who, w));
            }
            for (int k = 0; k < 4; k++) {
                int kind = k;
                same("number", () -> x.number(who, kind), () -> m.number(who, kind));
                same("goes", () -> x.goes(who, kind), () -> m.goes(who, kind));
            }
        }
        for (int k = 0; k < 4; k++) {
            int kind = k;
            same("man", () -> x.man(kind), () -> m.man(kind));
        }
        for (int ago = 0; ago <= 60; ago += 1 + below(20)) {
            int a = ago;
            int what = below(6);
            same("log", () -> x.log(a, what), () -> m.log(a, what));
        }
    }

    private static void act() {
        int p = who();
        int k = kind();
        int v = number();
        switch (below(8)) {
            case 0, 1 -> {
                int w = oneIn(8) ? about(0, 99) : v;
                same("tell", () -> x.tell(p, k, w), () -> m.tell(p, k, w));
            }
            case 2, 3 -> {
                int rule = oneIn(10) ? about(0, 5) : below(6);
                same("rule", () -> x.rule(k, rule), () -> m.rule(k, rule));
            }
            case 4 -> {
                boolean is = oneIn(2);
                same("stubborn", () -> x.stubborn(p, is) ? 1 : 0, () -> m.stubborn(p, is) ? 1 : 0);
            }
            case 5 -> {
                if (oneIn(3)) {
                    same("leave", () -> x.leave(p), () -> m.leave(p));
                }
            }
            default -> {
                int n = oneIn(4) ? about(1, 60) : 1 + below(4);
                same("days " + n, () -> x.days(n), () -> m.days(n));
            }
        }
    }

    private static long keepOurs() {
        x.image();
        return 0;
    }

    private static long keepTheirs() {
        m.image();
        return 0;
    }

    private static void turn() {
        switch (below(8)) {
            case 0 -> same("image", () -> keepOurs(), () -> keepTheirs());
            case 1 -> {
                if (oneIn(3)) {
                    same("back", () -> x.back() ? 1 : 0, () -> m.back() ? 1 : 0);
                }
            }
            case 2 -> {
                int n = oneIn(2) ? below(100) : random.nextInt();
                same("seed", () -> x.seed(n), () -> m.seed(n));
            }
            default -> same("undo", () -> x.undo() ? 1 : 0, () -> m.undo() ? 1 : 0);
        }
    }

    private static void askOfOne() {
        int p = who();
        int q = who();
        int k = kind();
        boolean flag = oneIn(2);
        int v = middling();
        switch (below(9)) {
            case 0 -> same("moves", () -> x.moves(p, k, flag), () -> m.moves(p, k, flag));
            case 1 -> same("sham", () -> x.sham(p, k), () -> m.sham(p, k));
            case 2 -> same("before", () -> x.before(p, k, v, flag), () -> m.before(p, k, v, flag));
            case 3 -> same("pull", () -> x.pull(p, q, k), () -> m.pull(p, q, k));
            case 4 -> same("rank", () -> x.rank(p, k), () -> m.rank(p, k));
            case 5 -> same("goes", () -> x.goes(p, k), () -> m.goes(p, k));
            case 6 -> same("number", () -> x.number(p, k), () -> m.number(p, k));
            case 7 -> {
                int what = about(0, 2);
                same("person", () -> x.person(p, what), () -> m.person(p, what));
            }
            default -> {
                int n = about(0, 60);
                int one = oneIn(3) ? -1 : p;
                same("ahead", () -> x.ahead(one, k, n), () -> m.ahead(one, k, n));
            }
        }
    }

    private static void askOfKind() {
        int k = kind();
        boolean flag = oneIn(2);
        int v = middling();
        int e = about(0, 20);
        switch (below(14)) {
            case 0 -> same("fewest " + k + " " + v, () -> x.fewest(k, v), () -> m.fewest(k, v));
            case 1 -> same("rules", () -> x.rules(k, v), () -> m.rules(k, v));
            case 2 -> same("honest", () -> x.honest(k), () -> m.honest(k));
            case 3 -> same("gainers", () -> x.gainers(k), () -> m.gainers(k));
            case 4 -> same("halves", () -> x.halves(k) ? 1 : 0, () -> m.halves(k) ? 1 : 0);
            case 5 -> same("near", () -> x.near(k, flag), () -> m.near(k, flag));
            case 6 -> same("sizes", () -> x.sizes(k, e), () -> m.sizes(k, e));
            case 7 -> {
                int sizes = about(1, 4);
                same("fits", () -> x.fits(k, e, sizes), () -> m.fits(k, e, sizes));
            }
            case 8 -> same("shoe", () -> x.shoe(k, e), () -> m.shoe(k, e));
            case 9 -> {
                int s = about(1, 8);
                int far = about(0, 99);
                same("samples", () -> x.samples(k, s, far, flag), () -> m.samples(k, s, far, flag));
            }
            case 10 -> same("majority", () -> x.majority(k, v), () -> m.majority(k, v));
            case 11 -> same("range", () -> x.range(k), () -> m.range(k));
            case 12 -> same("led", () -> x.led(k, v), () -> m.led(k, v));
            default -> {
                int rule = about(0, 5);
                same("middle", () -> x.middle(k, rule), () -> m.middle(k, rule));
            }
        }
    }

    private static void askOfAll() {
        int k = kind();
        boolean flag = oneIn(2);
        switch (below(11)) {
            case 0 -> same("nearest", () -> x.nearest(), () -> m.nearest());
            case 1, 2 -> {
                int n = about(0, 400);
                same("hates", () -> x.hates(n), () -> m.hates(n));
            }
            case 3 -> same("twins", () -> x.twins(), () -> m.twins());
            case 4 -> {
                int n = about(1, 8);
                same("village", () -> x.village(n), () -> m.village(n));
            }
            case 5 -> same("steady", () -> x.steady(), () -> m.steady());
            case 6 -> {
                int ago = about(0, 60);
                int what = about(0, 5);
                same("log", () -> x.log(ago, what), () -> m.log(ago, what));
            }
            case 7 -> {
                int n = about(0, 60);
                same("trial", () -> x.trial(k, n), () -> m.trial(k, n));
            }
            case 8 -> {
                int n = about(0, 60);
                same("span", () -> x.span(k, n, flag), () -> m.span(k, n, flag));
            }
            case 9 -> {
                if (oneIn(4)) {
                    same("settles", () -> x.settles(), () -> m.settles());
                }
            }
            default -> {
                if (oneIn(4)) {
                    same("round", () -> x.round(), () -> m.round());
                }
            }
        }
    }

    private static void oneRun() {
        x = new MeanMan();
        m = new Model();
        told = "";
        calls = 0;
        for (int i = 0; calls < CALLS_AHEAD_OF_ALL; i++) {
            int way = below(20);
            if (way == 0 || i < 3) {
                tellText(false);
            } else if (way == 1 || i == 3) {
                tellText(true);
            } else if (way < 5) {
                act();
            } else if (way == 5) {
                turn();
            } else if (way < 10) {
                askOfOne();
            } else if (way < 17) {
                askOfKind();
            } else {
                askOfAll();
            }
            if (oneIn(20)) {
                all();
            }
        }
        all();
    }

    public static void main(String[] args) {
        int runs = args.length > 0 ? Integer.parseInt(args[0]) : RUNS;
        int first = args.length > 1 ? Integer.parseInt(args[1]) : 0;
        for (run = first; run < first + runs; run++) {
            random = new Random(run);
            oneRun();
        }
        System.out.println(compared + " answers compared, " + threw + " of them exceptions, " + wrong + " wrong");
        if (wrong != 0) {
            System.exit(1);
        }
    }
}
