import java.nio.charset.StandardCharsets;
import java.util.ArrayDeque;
import java.util.ArrayList;
import java.util.Arrays;
import java.util.Collections;
import java.util.Deque;
import java.util.List;
import java.util.NoSuchElementException;
import java.util.TreeMap;
import java.util.TreeSet;
import java.util.regex.Matcher;
import java.util.regex.Pattern;

/** The document once more, by plain trying where that is short enough: what ModelTest compares with. */
final class Model {
    static final class Person {
        int[] n;
        int weight;
        boolean stubborn;

        Person(int[] n, int weight, boolean stubborn) {
            this.n = n.clone();
            this.weight = weight;
            this.stubborn = stubborn;
        }
    }

    /** A thing of a text, or its end. */
    record Thing(String text, int begin) { }

    interface Condition {
        boolean holds(int who, int kind, int mine, int his, int day);
    }

    interface Sum {
        int value(int who, int kind, int mine, int his, int day);
    }

    record Line(String way, int step, Condition condition) { }

    static final class Wrong extends Exception {
        private static final long serialVersionUID = 1;
        final int at;

        Wrong(int at) {
            this.at = at;
        }
    }

    static final class State {
        List<Person> people = new ArrayList<>();
        int[] rules = new int[4];
        int[] man = new int[4];
        int strike;
        int day;
        int seed = 1;
        int texts;
        List<Line> law;
        List<int[]> log = new ArrayList<>();

        State copy() {
            State c = new State();
            for (Person p : people) {
                c.people.add(new Person(p.n, p.weight, p.stubborn));
            }
            c.rules = rules.clone();
            c.man = man.clone();
            c.strike = strike;
            c.day = day;
            c.seed = seed;
            c.texts = texts;
            c.law = law;
            c.log = new ArrayList<>(log);
            return c;
        }

        List<Integer> numbers() {
            List<Integer> all = new ArrayList<>();
            for (Person p : people) {
                for (int x : p.n) {
                    all.add(x);
                }
            }
            for (int x : man) {
                all.add(x);
            }
            return all;
        }

        int draw() {
            seed = seed * 1103515245 + 12345;
            return (seed >> 16) & 0x7fff;
        }

        int goes(int who, int kind) {
            Person p = people.get(who);
            int mine = p.n[kind];
            int his = man[kind];
            if (p.stubborn || law == null) {
                return mine;
            }
            int toward = 0;
            int up = 0;
            int down = 0;
            for (Line line : law) {
                if (line.condition == null || line.condition.holds(who, kind, mine, his, day)) {
                    switch (line.way) {
                        case "toward" -> toward += line.step;
                        case "up" -> up += line.step;
                        default -> down += line.step;
                    }
                }
            }
            int v = mine;
            for (int i = 0; i < toward && v != his; i++) {
                v += v < his ? 1 : -1;
            }
            v = v + up - down;
            return v < 0 ? 0 : v > 99 ? 99 : v;
        }

        int day(boolean draws) {
            if (!people.isEmpty()) {
                for (int k = 0; k < 4; k++) {
                    man[k] = middle(people, k, rules[k]);
                }
            }
            int changed = 0;
            State ahead = copy();
            for (int p = 0; p < people.size(); p++) {
                for (int k = 0; k < 4; k++) {
                    people.get(p).n[k] = ahead.goes(p, k);
                    changed += people.get(p).n[k] == ahead.people.get(p).n[k] ? 0 : 1;
                }
            }
            if (draws) {
                boolean strikes = draw() % 100 < strike;
                if (strikes && !people.isEmpty()) {
                    Person p = people.get(draw() % people.size());
                    int k = draw() % 4;
                    p.n[k] = draw() % 100;
                }
            }
            int[] row = {day, man[0], man[1], man[2], man[3], changed};
            log.add(0, row);
            if (log.size() > 60) {
                log.remove(60);
            }
            if (day < 9999) {
                day++;
            }
            return changed;
        }
    }

    static int middle(List<Person> people, int kind, int rule) {
        List<Integer> list = new ArrayList<>();
        int sum = 0;
        int weighted = 0;
        int weights = 0;
        TreeMap<Integer, Integer> counts = new TreeMap<>();
        for (Person p : people) {
            int v = p.n[kind];
            list.add(v);
            sum += v;
            weighted += v * p.weight;
            weights += p.weight;
            counts.merge(v, 1, Integer::sum);
        }
        Collections.sort(list);
        int n = list.size();
        switch (rule) {
            case 0:
                return sum / n;
            case 1:
                return n % 2 == 1 ? list.get(n / 2) : Math.min(list.get(n / 2 - 1), list.get(n / 2));
            case 2:
                return n % 2 == 1 ? list.get(n / 2) : Math.max(list.get(n / 2 - 1), list.get(n / 2));
            case 3:
                return (Collections.min(list) + Collections.max(list)) / 2;
            case 4:
                int most = Collections.max(counts.values());
                for (int v : counts.keySet()) {
                    if (counts.get(v) == most) {
                        return v;
                    }
                }
                throw new AssertionError();
            default:
                return weighted / weights;
        }
    }

    State s = new State();
    private State image;
    private final Deque<State> acts = new ArrayDeque<>();
    private byte[] tape = new byte[0];
    private int fault = -1;
    private List<Thing> things;
    private int place;

    int feed(int... numbers) {
        if (tape.length + 20 > 400) {
            return -1;
        }
        byte[] more = Arrays.copyOf(tape, tape.length + 20);
        for (int i = 0; i < 20; i++) {
            more[tape.length + i] = (byte) (numbers[i / 4] >> (24 - 8 * (i % 4)));
        }
        tape = more;
        return tape.length;
    }

    boolean end(int n) {
        if (n < 0 || n > tape.length) {
            return false;
        }
        tape = Arrays.copyOf(tape, n);
        return true;
    }

    private Thing take() {
        return things.get(place++);
    }

    private Thing here() {
        return things.get(place);
    }

    private void cut() {
        String text = new String(tape, StandardCharsets.ISO_8859_1);
        tape = new byte[0];
        things = new ArrayList<>();
        place = 0;
        Matcher m = Pattern.compile("[a-z]+|[0-9]+|[^ ]", Pattern.DOTALL).matcher(text);
        while (m.find()) {
            things.add(new Thing(m.group(), m.start()));
        }
        things.add(new Thing("", text.length()));
    }

    private int takeNumber(int least, int most) throws Wrong {
        Thing t = here();
        if (!t.text.matches("[0-9]{1,3}") || Integer.parseInt(t.text) < least || Integer.parseInt(t.text) > most) {
            throw new Wrong(t.begin);
        }
        return Integer.parseInt(take().text);
    }

    private void take(String text) throws Wrong {
        if (!here().text.equals(text)) {
            throw new Wrong(here().begin);
        }
        take();
    }

    private interface Reads {
        void line(State into) throws Wrong;
    }

    private State read(Reads line, int most, boolean law) {
        cut();
        State into = s.copy();
        if (law) {
            into.law = new ArrayList<>();
        }
        try {
            int lines = 0;
            while (!(lines == 0 && here().text.isEmpty())) {
                if (lines > 0 && here().text.isEmpty()) {
                    break;
                }
                if (lines > 0) {
                    take(";");
                }
                if (lines == most) {
                    throw new Wrong(here().begin);
                }
                line.line(into);
                lines++;
            }
            fault = -1;
            return into;
        } catch (Wrong e) {
            fault = e.at;
            throw new IllegalArgumentException();
        }
    }

    int hall() {
        State into = read(this::hallLine, 14, false);
        if (s.texts == 12) {
            throw new UnsupportedOperationException();
        }
        into.texts++;
        s = into;
        acts.clear();
        return s.texts;
    }

    private void hallLine(State into) throws Wrong {
        Thing first = here();
        int people = into.people.size();
        switch (first.text) {
            case "person" -> {
                if (people == 8) {
                    throw new Wrong(first.begin);
                }
                take();
                int[] n = four();
                take("weight");
                into.people.add(new Person(n, takeNumber(1, 9), false));
            }
            case "stubborn" -> {
                take();
                into.people.get(takeNumber(0, people - 1)).stubborn = true;
            }
            case "rule" -> {
                take();
                int k = takeNumber(0, 3);
                into.rules[k] = takeNumber(0, 5);
            }
            case "strike" -> {
                take();
                into.strike = takeNumber(0, 100);
            }
            case "man" -> {
                take();
                into.man = four();
            }
            case "number" -> {
                take();
                Person p = into.people.get(takeNumber(0, people - 1));
                int k = takeNumber(0, 3);
                p.n[k] = takeNumber(0, 99);
            }
            default -> throw new Wrong(first.begin);
        }
    }

    private int[] four() throws Wrong {
        int[] n = new int[4];
        for (int k = 0; k < 4; k++) {
            n[k] = takeNumber(0, 99);
        }
        return n;
    }

    int law() {
        s = read(this::lawLine, 12, true);
        acts.clear();
        return s.law.size();
    }

    private void lawLine(State into) throws Wrong {
        Thing first = here();
        if (!first.text.matches("up|down|toward")) {
            throw new Wrong(first.begin);
        }
        take();
        int step = takeNumber(0, 20);
        Condition c = null;
        if (here().text.equals("if")) {
            take();
            c = condition(0);
        }
        into.law.add(new Line(first.text, step, c));
    }

    private Condition condition(int deep) throws Wrong {
        Condition left = all(deep);
        while (here().text.equals("or")) {
            take();
            Condition a = left;
            Condition b = all(deep);
            left = (w, k, m, h, d) -> a.holds(w, k, m, h, d) || b.holds(w, k, m, h, d);
        }
        return left;
    }

    private Condition all(int deep) throws Wrong {
        Condition left = atom(deep);
        while (here().text.equals("and")) {
            take();
            Condition a = left;
            Condition b = atom(deep);
            left = (w, k, m, h, d) -> a.holds(w, k, m, h, d) && b.holds(w, k, m, h, d);
        }
        return left;
    }

    private Condition atom(int deep) throws Wrong {
        Thing t = here();
        if ((t.text.equals("not") || t.text.equals("(")) && deep == 6) {
            throw new Wrong(t.begin);
        }
        switch (t.text) {
            case "not": {
                take();
                Condition c = atom(deep + 1);
                return (w, k, m, h, d) -> !c.holds(w, k, m, h, d);
            }
            case "(": {
                take();
                Condition c = condition(deep + 1);
                take(")");
                return c;
            }
            case "above":
                take();
                return (w, k, m, h, d) -> m > h;
            case "below":
                take();
                return (w, k, m, h, d) -> m < h;
            default:
        }
        Sum a = sum();
        String sign = here().text;
        if (!sign.equals("<") && !sign.equals(">")) {
            throw new Wrong(here().begin);
        }
        take();
        Sum b = sum();
        return sign.equals("<")
            ? (w, k, m, h, d) -> a.value(w, k, m, h, d) < b.value(w, k, m, h, d)
            : (w, k, m, h, d) -> a.value(w, k, m, h, d) > b.value(w, k, m, h, d);
    }

    private Sum sum() throws Wrong {
        Sum left = part();
        while (here().text.equals("+")) {
            take();
            Sum a = left;
            Sum b = part();
            left = (w, k, m, h, d) -> a.value(w, k, m, h, d) + b.value(w, k, m, h, d);
        }
        return left;
    }

    private Sum part() throws Wrong {
        switch (here().text) {
            case "who":
                take();
                return (w, k, m, h, d) -> w;
            case "kind":
                take();
                return (w, k, m, h, d) -> k;
            case "mine":
                take();
                return (w, k, m, h, d) -> m;
            case "his":
                take();
                return (w, k, m, h, d) -> h;
            case "apart":
                take();
                return (w, k, m, h, d) -> m > h ? m - h : h - m;
            case "day":
                take();
                return (w, k, m, h, d) -> d;
            default:
                int n = takeNumber(0, 999);
                return (w, k, m, h, d) -> n;
        }
    }

    int fault() {
        return fault;
    }

    private Person who(int person) {
        if (person < 0 || person >= s.people.size()) {
            throw new IndexOutOfBoundsException();
        }
        return s.people.get(person);
    }

    private static void kind(int kind) {
        if (kind < 0 || kind > 3) {
            throw new IndexOutOfBoundsException();
        }
    }

    private static void within(int n, int least, int most) {
        if (n < least || n > most) {
            throw new IllegalArgumentException();
        }
    }

    int number(int person, int kind) {
        who(person);
        kind(kind);
        return who(person).n[kind];
    }

    private int fromMan(Person p) {
        int apart = 0;
        for (int k = 0; k < 4; k++) {
            apart += Math.abs(p.n[k] - s.man[k]);
        }
        return apart;
    }

    int person(int person, int what) {
        Person p = who(person);
        if (what < 0 || what > 2) {
            throw new NoSuchElementException();
        }
        return what == 0 ? p.weight : what == 1 ? (p.stubborn ? 1 : 0) : fromMan(p);
    }

    int man(int kind) {
        kind(kind);
        return s.man[kind];
    }

    int middle(int kind, int rule) {
        kind(kind);
        if (rule < 0 || rule > 5) {
            throw new IndexOutOfBoundsException();
        }
        if (s.people.isEmpty()) {
            throw new IllegalStateException();
        }
        return middle(s.people, kind, rule);
    }

    int goes(int person, int kind) {
        who(person);
        kind(kind);
        return s.goes(person, kind);
    }

    private void act() {
        acts.addFirst(s.copy());
        if (acts.size() > 12) {
            acts.removeLast();
        }
    }

    int tell(int person, int kind, int v) {
        who(person);
        kind(kind);
        within(v, 0, 99);
        act();
        int was = who(person).n[kind];
        who(person).n[kind] = v;
        return was;
    }

    int rule(int kind, int rule) {
        kind(kind);
        if (rule < 0 || rule > 5) {
            throw new IndexOutOfBoundsException();
        }
        act();
        int was = s.rules[kind];
        s.rules[kind] = rule;
        return was;
    }

    boolean stubborn(int person, boolean is) {
        who(person);
        act();
        boolean was = who(person).stubborn;
        who(person).stubborn = is;
        return was != is;
    }

    int leave(int person) {
        who(person);
        act();
        s.people.remove(person);
        return s.people.size();
    }

    int days(int n) {
        within(n, 1, 60);
        act();
        int changed = 0;
        for (int i = 0; i < n; i++) {
            changed += s.day(true);
        }
        return changed;
    }

    private State after(int n, boolean draws, int seed) {
        State t = s.copy();
        t.seed = seed;
        for (int i = 0; i < n; i++) {
            t.day(draws);
        }
        return t;
    }

    int ahead(int person, int kind, int n) {
        if (person != -1) {
            who(person);
        }
        kind(kind);
        within(n, 0, 60);
        State t = after(n, false, 0);
        return person == -1 ? t.man[kind] : t.people.get(person).n[kind];
    }

    int settles() {
        for (int n = 0; n <= 60; n++) {
            if (after(n, false, 0).numbers().equals(after(n + 1, false, 0).numbers())) {
                return n;
            }
        }
        return -1;
    }

    int round() {
        for (int p = 1; p <= 30; p++) {
            if (after(60, false, 0).numbers().equals(after(60 - p, false, 0).numbers())) {
                return p;
            }
        }
        return -1;
    }

    private List<Person> subset(int set) {
        List<Person> some = new ArrayList<>();
        for (int p = 0; p < s.people.size(); p++) {
            if ((set & 1 << p) != 0) {
                some.add(s.people.get(p));
            }
        }
        return some;
    }

    /** With more than four people, sets of more than three are not tried one by one: -2 then. */
    int fewest(int kind, int v) {
        kind(kind);
        within(v, 0, 99);
        if (s.people.isEmpty()) {
            throw new IllegalStateException();
        }
        int rule = s.rules[kind];
        for (int many = 0; many <= s.people.size(); many++) {
            for (int set = 0; set < 1 << s.people.size(); set++) {
                if (Integer.bitCount(set) != many) {
                    continue;
                }
                if (rule == 0 || rule == 5) {
                    if (sumsReach(kind, v, set, rule == 5)) {
                        return set;
                    }
                } else if (many > 3 && s.people.size() > 4) {
                    return -2;
                } else if (triesReach(kind, v, set)) {
                    return set;
                }
            }
        }
        return -1;
    }

    private boolean sumsReach(int kind, int v, int set, boolean weighted) {
        int parts = 0;
        TreeSet<Integer> sums = new TreeSet<>(List.of(0));
        for (int p = 0; p < s.people.size(); p++) {
            Person who = s.people.get(p);
            int weight = weighted ? who.weight : 1;
            parts += weight;
            TreeSet<Integer> next = new TreeSet<>();
            for (int sum : sums) {
                if ((set & 1 << p) == 0) {
                    next.add(sum + weight * who.n[kind]);
                } else {
                    for (int x = 0; x <= 99; x++) {
                        next.add(sum + weight * x);
                    }
                }
            }
            sums = next;
        }
        for (int sum : sums) {
            if (sum / parts == v) {
                return true;
            }
        }
        return false;
    }

    private boolean triesReach(int kind, int v, int set) {
        TreeSet<Integer> values = new TreeSet<>();
        for (int x = Math.max(0, v - 1); x <= Math.min(99, v + 1); x++) {
            values.add(x);
        }
        for (Person p : s.people) {
            values.add(p.n[kind]);
            // By rule 3 the other end must lie about twice as far.
            for (int x = 2 * v - p.n[kind]; x <= 2 * v + 1 - p.n[kind]; x++) {
                if (x >= 0 && x <= 99) {
                    values.add(x);
                }
            }
        }
        values.add(0);
        values.add(99);
        State kept = s;
        s = s.copy();
        boolean found = tries(kind, v, set, 0, new ArrayList<>(values));
        s = kept;
        return found;
    }

    private boolean tries(int kind, int v, int set, int from, List<Integer> values) {
        if (from == s.people.size()) {
            return middle(s.people, kind, s.rules[kind]) == v;
        }
        if ((set & 1 << from) == 0) {
            return tries(kind, v, set, from + 1, values);
        }
        for (int x : values) {
            s.people.get(from).n[kind] = x;
            if (tries(kind, v, set, from + 1, values)) {
                return true;
            }
        }
        return false;
    }

    int rules(int kind, int v) {
        kind(kind);
        within(v, 0, 99);
        int bits = 0;
        for (int r = 0; r < 6 && !s.people.isEmpty(); r++) {
            bits += middle(s.people, kind, r) == v ? 1 << r : 0;
        }
        return bits;
    }

    private int middleIf(int person, int kind, int rule, int v) {
        Person p = s.people.get(person);
        int was = p.n[kind];
        p.n[kind] = v;
        int m = middle(s.people, kind, rule);
        p.n[kind] = was;
        return m;
    }

    int moves(int person, int kind, boolean most) {
        who(person);
        kind(kind);
        TreeSet<Integer> all = new TreeSet<>();
        for (int x = 0; x <= 99; x++) {
            all.add(middleIf(person, kind, s.rules[kind], x));
        }
        return most ? all.last() : all.first();
    }

    private int sham(int person, int kind, int rule) {
        int own = who(person).n[kind];
        int now = Math.abs(own - middle(s.people, kind, rule));
        for (int apart = 0; apart < now; apart++) {
            for (int x = 0; x <= 99; x++) {
                if (Math.abs(own - middleIf(person, kind, rule, x)) == apart) {
                    return x;
                }
            }
        }
        return -1;
    }

    int sham(int person, int kind) {
        who(person);
        kind(kind);
        return sham(person, kind, s.rules[kind]);
    }

    private int gainers(int kind, int rule) {
        int bits = 0;
        for (int p = 0; p < s.people.size(); p++) {
            bits += sham(p, kind, rule) >= 0 ? 1 << p : 0;
        }
        return bits;
    }

    int honest(int kind) {
        kind(kind);
        int bits = 0;
        for (int r = 0; r < 6; r++) {
            bits += gainers(kind, r) == 0 ? 1 << r : 0;
        }
        return bits;
    }

    int gainers(int kind) {
        kind(kind);
        return gainers(kind, s.rules[kind]);
    }

    boolean halves(int kind) {
        kind(kind);
        int sum = 0;
        for (Person p : s.people) {
            sum += p.n[kind];
        }
        return !s.people.isEmpty() && sum % s.people.size() > 0;
    }

    int near(int kind, boolean more) {
        kind(kind);
        int many = 0;
        for (Person p : s.people) {
            many += p.n[kind] == middle(s.people, kind, 0) + (more ? 1 : 0) ? 1 : 0;
        }
        return many;
    }

    int before(int person, int kind, int v, boolean least) {
        who(person);
        kind(kind);
        within(v, 0, 99);
        List<Integer> was = new ArrayList<>();
        for (int x = 0; x <= 99; x++) {
            if (middleIf(person, kind, 0, x) == v) {
                was.add(x);
            }
        }
        return !least ? was.size() : was.isEmpty() ? -1 : was.get(0);
    }

    private int fitSet(int kind, int e, int size) {
        int bits = 0;
        for (int p = 0; p < s.people.size(); p++) {
            bits += Math.abs(s.people.get(p).n[kind] - size) <= e ? 1 << p : 0;
        }
        return bits;
    }

    int sizes(int kind, int e) {
        kind(kind);
        within(e, 0, 20);
        int sizes = 0;
        TreeSet<Integer> sets = new TreeSet<>(List.of(0));
        while (!sets.contains((1 << s.people.size()) - 1)) {
            TreeSet<Integer> next = new TreeSet<>();
            for (int set : sets) {
                for (int i = 0; i <= 99; i++) {
                    next.add(set | fitSet(kind, e, i));
                }
            }
            sets = next;
            sizes++;
        }
        return sizes;
    }

    int fits(int kind, int e, int sizes) {
        kind(kind);
        within(e, 0, 20);
        within(sizes, 1, 4);
        TreeSet<Integer> sets = new TreeSet<>(List.of(0));
        for (int k = 0; k < sizes; k++) {
            TreeSet<Integer> next = new TreeSet<>();
            for (int set : sets) {
                for (int i = 0; i <= 99; i++) {
                    next.add(set | fitSet(kind, e, i));
                }
            }
            sets = next;
        }
        int most = 0;
        for (int set : sets) {
            most = Math.max(most, Integer.bitCount(set));
        }
        return most;
    }

    int shoe(int kind, int e) {
        kind(kind);
        within(e, 0, 20);
        for (int many = s.people.size(); many >= 0; many--) {
            for (int i = 0; i <= 99; i++) {
                if (Integer.bitCount(fitSet(kind, e, i)) == many) {
                    return i;
                }
            }
        }
        throw new AssertionError();
    }

    int pull(int person, int other, int kind) {
        who(person);
        who(other);
        kind(kind);
        if (person == other) {
            throw new IllegalArgumentException();
        }
        State kept = s;
        int one = who(person).n[kind];
        int two = who(other).n[kind];
        int[][] m = new int[3][3];
        for (int a = 0; a < 3; a++) {
            for (int b = 0; b < 3; b++) {
                s = kept.copy();
                who(person).n[kind] = new int[] {one, 0, 99}[a];
                who(other).n[kind] = new int[] {two, 0, 99}[b];
                m[a][b] = middle(s.people, kind, s.rules[kind]);
            }
        }
        s = kept;
        int bits = 0;
        for (int a = 0; a < 3; a++) {
            for (int b = 0; b < 3; b++) {
                boolean rest = true;
                for (int c = 0; c < 3; c++) {
                    rest &= Math.abs(m[c][b] - one) >= Math.abs(m[a][b] - one);
                    rest &= Math.abs(m[a][c] - two) >= Math.abs(m[a][b] - two);
                }
                bits += rest ? 1 << (3 * a + b) : 0;
            }
        }
        return bits;
    }

    int samples(int kind, int size, int e, boolean all) {
        kind(kind);
        within(size, 1, 8);
        within(e, 0, 99);
        int many = 0;
        for (int set = 1; set < 1 << s.people.size(); set++) {
            List<Person> some = subset(set);
            int rule = s.rules[kind];
            if (some.size() == size
                && (all || Math.abs(middle(some, kind, rule) - middle(s.people, kind, rule)) <= e)) {
                many++;
            }
        }
        return many;
    }

    int nearest() {
        for (int apart = 0; apart <= 400; apart++) {
            for (int p = 0; p < s.people.size(); p++) {
                if (fromMan(s.people.get(p)) == apart) {
                    return p;
                }
            }
        }
        return -1;
    }

    int hates(int n) {
        within(n, 0, 400);
        int bits = 0;
        for (int p = 0; p < s.people.size(); p++) {
            bits += fromMan(s.people.get(p)) > n ? 1 << p : 0;
        }
        return bits;
    }

    int twins() {
        int pairs = 0;
        for (Person p : s.people) {
            for (Person q : s.people) {
                pairs += p != q && Arrays.equals(p.n, q.n) ? 1 : 0;
            }
        }
        return pairs / 2;
    }

    int village(int n) {
        within(n, 1, 8);
        for (int apart = 0; apart <= 400; apart++) {
            for (int set = 1; set < 1 << s.people.size(); set++) {
                List<Person> some = subset(set);
                int sum = 0;
                for (int k = 0; k < 4; k++) {
                    sum += Math.abs(middle(some, k, s.rules[k]) - middle(s.people, k, s.rules[k]));
                }
                if (some.size() == n && sum == apart) {
                    return set;
                }
            }
        }
        return -1;
    }

    int majority(int kind, int v) {
        kind(kind);
        within(v, 0, 99);
        int sum = 0;
        for (Person p : s.people) {
            sum += p.n[kind] > v ? p.weight : p.n[kind] < v ? -p.weight : 0;
        }
        return sum;
    }

    int rank(int person, int kind) {
        who(person);
        kind(kind);
        int greater = 0;
        for (Person p : s.people) {
            greater += p.n[kind] > who(person).n[kind] ? 1 : 0;
        }
        return greater;
    }

    int range(int kind) {
        kind(kind);
        int least = 99;
        int most = 0;
        for (Person p : s.people) {
            least = Math.min(least, p.n[kind]);
            most = Math.max(most, p.n[kind]);
        }
        return s.people.isEmpty() ? 0 : most - least;
    }

    int trial(int kind, int n) {
        kind(kind);
        within(n, 0, 60);
        return after(n, true, s.seed).man[kind];
    }

    int span(int kind, int n, boolean most) {
        kind(kind);
        within(n, 0, 60);
        TreeSet<Integer> all = new TreeSet<>();
        for (int seed = 1; seed <= 6; seed++) {
            all.add(after(n, true, seed).man[kind]);
        }
        return most ? all.last() : all.first();
    }

    int led(int kind, int v) {
        kind(kind);
        for (int[] row : s.log) {
            if (row[1 + kind] == v) {
                return row[0];
            }
        }
        return -1;
    }

    int steady() {
        int rows = 0;
        for (int[] row : s.log) {
            if (!Arrays.equals(row, 1, 5, s.log.get(0), 1, 5)) {
                break;
            }
            rows++;
        }
        return rows;
    }

    int log(int ago, int what) {
        if (what < 0 || what > 5) {
            throw new NoSuchElementException();
        }
        return ago < 0 || ago >= s.log.size() ? -1 : s.log.get(ago)[what];
    }

    int seed(int n) {
        int was = s.seed;
        s.seed = n;
        return was;
    }

    boolean undo() {
        if (acts.isEmpty()) {
            return false;
        }
        s = acts.removeFirst();
        return true;
    }

    void image() {
        image = s.copy();
    }

    boolean back() {
        if (image == null) {
            return false;
        }
        s = image.copy();
        acts.clear();
        return true;
    }

    int count(int what) {
        int stubborn = 0;
        int weights = 0;
        for (int p = 0; p < s.people.size(); p++) {
            stubborn += s.people.get(p).stubborn ? 1 << p : 0;
            weights += s.people.get(p).weight;
        }
        if (what >= 5 && what <= 8) {
            return s.rules[what - 5];
        }
        return switch (what) {
            case 0 -> s.people.size();
            case 1 -> s.texts;
            case 2 -> s.law == null ? -1 : s.law.size();
            case 3 -> s.day;
            case 4 -> s.strike;
            case 9 -> stubborn;
            case 10 -> weights;
            case 11 -> s.log.size();
            case 12 -> acts.size();
            default -> -1;
        };
    }
}
