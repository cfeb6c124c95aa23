import java.util.NoSuchElementException;

/** A man who is engaged to be the average of the people in a hall. */
public final class MeanMan {
    public static final int NONE = -1;

    private static final int KINDS = 4;
    private static final int RULES = 6;
    private static final int MOST_PEOPLE = 8;
    private static final int GREATEST = 99;
    private static final int GREATEST_APART = 400;
    private static final int LONGEST_AHEAD = 60;
    private static final int LONGEST_ROUND = 30;
    private static final int GREATEST_EASE = 20;
    private static final int MOST_SIZES = 4;
    private static final int MOST_TEXTS = 12;
    private static final int SPAN_SEEDS = 6;

    private final Tape tape = new Tape();
    private final Hall hall = new Hall();
    private final Law law = new Law();
    private final Acts acts = new Acts();
    private final Hall keptHall = new Hall();
    private final Law keptLaw = new Law();
    // Texts are read into drafts, so that of a wrong one nothing stays; trials live in them too.
    private final Hall draft = new Hall();
    private final Hall later = new Hall();
    private final Law draftLaw = new Law();
    private final HallText hallText = new HallText(tape, draft);
    private final LawText lawText = new LawText(tape, draftLaw);
    private final Bag bag = new Bag();
    private final Shams shams = new Shams(hall, bag);
    private final Sets sets = new Sets(hall, bag);
    private boolean kept = false;
    private int wrongByte = NONE;

    public MeanMan() {
    }

    public int feed(int a, int b, int c, int d, int e) {
        if (!tape.hasRoomFor(20)) {
            return NONE;
        }
        tape.add(a);
        tape.add(b);
        tape.add(c);
        tape.add(d);
        tape.add(e);
        return tape.length;
    }

    public boolean end(int n) {
        if (n < 0 || n > tape.length) {
            return false;
        }
        tape.length = n;
        return true;
    }

    public int hall() throws IllegalArgumentException, UnsupportedOperationException {
        draft.copy(hall);
        wrongByte = hallText.read(HallText.MOST_LINES);
        tape.length = 0;
        if (wrongByte != NONE) {
            throw new IllegalArgumentException("the text of the hall is wrong");
        }
        if (hall.texts >= MOST_TEXTS) {
            throw new UnsupportedOperationException("the hall has all its texts");
        }
        hall.copy(draft);
        hall.texts++;
        acts.forget();
        return hall.texts;
    }

    public int law() throws IllegalArgumentException {
        draftLaw.clear();
        wrongByte = lawText.read(Law.MOST_LINES);
        tape.length = 0;
        if (wrongByte != NONE) {
            throw new IllegalArgumentException("the text of the law is wrong");
        }
        law.copy(draftLaw);
        law.told = true;
        acts.forget();
        return law.lines;
    }

    public int fault() {
        return wrongByte;
    }

    public int number(int person, int kind) throws IndexOutOfBoundsException {
        needPerson(person);
        needKind(kind);
        return hall.numberOf(person, kind);
    }

    public int person(int person, int what) throws IndexOutOfBoundsException, NoSuchElementException {
        needPerson(person);
        switch (what) {
            case 0:
                return hall.weights[person];
            case 1:
                return hall.isStubborn(person) ? 1 : 0;
            case 2:
                return hall.fromMan(person);
            default:
                throw new NoSuchElementException("nothing else is told of a person");
        }
    }

    public int man(int kind) throws IndexOutOfBoundsException {
        needKind(kind);
        return hall.man[kind];
    }

    public int middle(int kind, int rule) throws IndexOutOfBoundsException, IllegalStateException {
        needKind(kind);
        needRule(rule);
        needPeople();
        return hall.middleOfAll(bag, kind, rule);
    }

    public int goes(int person, int kind) throws IndexOutOfBoundsException {
        needPerson(person);
        needKind(kind);
        return hall.goesTo(law, person, kind);
    }

    public int tell(int person, int kind, int v) throws IndexOutOfBoundsException, IllegalArgumentException {
        needPerson(person);
        needKind(kind);
        needNumber(v, 0, GREATEST);
        acts.remember(hall);
        int was = hall.numberOf(person, kind);
        hall.put(person, kind, v);
        return was;
    }

    public int rule(int kind, int rule) throws IndexOutOfBoundsException {
        needKind(kind);
        needRule(rule);
        acts.remember(hall);
        int was = hall.rules[kind];
        hall.rules[kind] = rule;
        return was;
    }

    public boolean stubborn(int person, boolean is) throws IndexOutOfBoundsException {
        needPerson(person);
        acts.remember(hall);
        boolean was = hall.isStubborn(person);
        hall.makeStubborn(person, is);
        return was != is;
    }

    public int leave(int person) throws IndexOutOfBoundsException {
        needPerson(person);
        acts.remember(hall);
        hall.lose(person);
        return hall.people;
    }

    public int days(int n) throws IllegalArgumentException {
        needNumber(n, 1, LONGEST_AHEAD);
        acts.remember(hall);
        int changed = 0;
        for (int i = 0; i < n; i++) {
            changed += hall.loggedDay(law, bag);
        }
        return changed;
    }

    public int ahead(int person, int kind, int n) throws IndexOutOfBoundsException, IllegalArgumentException {
        if (person != NONE) {
            needPerson(person);
        }
        needKind(kind);
        needNumber(n, 0, LONGEST_AHEAD);
        draft.copy(hall);
        draft.passDays(law, bag, n, false);
        return person == NONE ? draft.man[kind] : draft.numberOf(person, kind);
    }

    public int settles() {
        draft.copy(hall);
        for (int n = 0; n <= LONGEST_AHEAD; n++) {
            int man = draft.packedMan();
            int changed = draft.passDay(law, bag, false);
            if (changed == 0 && draft.packedMan() == man) {
                return n;
            }
        }
        return NONE;
    }

    public int round() {
        draft.copy(hall);
        draft.passDays(law, bag, LONGEST_AHEAD - LONGEST_ROUND, false);
        later.copy(draft);
        later.passDays(law, bag, LONGEST_ROUND, false);
        int least = NONE;
        for (int p = LONGEST_ROUND; p >= 1; p--) {
            if (draft.hasNumbersOf(later)) {
                least = p;
            }
            draft.passDay(law, bag, false);
        }
        return least;
    }

    public int fewest(int kind, int v)
            throws IndexOutOfBoundsException, IllegalArgumentException, IllegalStateException {
        needKind(kind);
        needNumber(v, 0, GREATEST);
        needPeople();
        return sets.fewestToChange(kind, v);
    }

    public int rules(int kind, int v) throws IndexOutOfBoundsException, IllegalArgumentException {
        needKind(kind);
        needNumber(v, 0, GREATEST);
        hall.fill(bag, kind, hall.everyone());
        int bits = 0;
        for (int rule = 0; rule < RULES; rule++) {
            if (bag.by(rule) == v) {
                bits |= 1 << rule;
            }
        }
        return bits;
    }

    public int moves(int person, int kind, boolean most) throws IndexOutOfBoundsException {
        needPerson(person);
        needKind(kind);
        return shams.farthest(person, kind, most);
    }

    public int sham(int person, int kind) throws IndexOutOfBoundsException {
        needPerson(person);
        needKind(kind);
        return shams.bestOf(person, kind, hall.rules[kind]);
    }

    public int honest(int kind) throws IndexOutOfBoundsException {
        needKind(kind);
        int bits = 0;
        for (int rule = 0; rule < RULES; rule++) {
            if (!shams.anyoneGains(kind, rule)) {
                bits |= 1 << rule;
            }
        }
        return bits;
    }

    public int gainers(int kind) throws IndexOutOfBoundsException {
        needKind(kind);
        int bits = 0;
        for (int p = 0; p < hall.people; p++) {
            if (shams.gains(p, kind, hall.rules[kind])) {
                bits |= 1 << p;
            }
        }
        return bits;
    }

    public boolean halves(int kind) throws IndexOutOfBoundsException {
        needKind(kind);
        hall.fill(bag, kind, hall.everyone());
        return bag.size > 0 && bag.sum % bag.size != 0;
    }

    public int near(int kind, boolean more) throws IndexOutOfBoundsException {
        needKind(kind);
        hall.fill(bag, kind, hall.everyone());
        if (bag.size == 0) {
            return 0;
        }
        return bag.howManyAt(bag.by(0) + (more ? 1 : 0));
    }

    public int before(int person, int kind, int v, boolean least)
            throws IndexOutOfBoundsException, IllegalArgumentException {
        needPerson(person);
        needKind(kind);
        needNumber(v, 0, GREATEST);
        return least ? shams.leastBefore(person, kind, v) : shams.howManyBefore(person, kind, v);
    }

    public int sizes(int kind, int e) throws IndexOutOfBoundsException, IllegalArgumentException {
        needKind(kind);
        needNumber(e, 0, GREATEST_EASE);
        hall.fill(bag, kind, hall.everyone());
        return bag.fewestSizes(e);
    }

    public int fits(int kind, int e, int sizes) throws IndexOutOfBoundsException, IllegalArgumentException {
        needKind(kind);
        needNumber(e, 0, GREATEST_EASE);
        needNumber(sizes, 1, MOST_SIZES);
        hall.fill(bag, kind, hall.everyone());
        return bag.mostFitted(e, sizes);
    }

    public int shoe(int kind, int e) throws IndexOutOfBoundsException, IllegalArgumentException {
        needKind(kind);
        needNumber(e, 0, GREATEST_EASE);
        hall.fill(bag, kind, hall.everyone());
        return bag.bestSize(e);
    }

    public int pull(int person, int other, int kind) throws IndexOutOfBoundsException, IllegalArgumentException {
        needPerson(person);
        needPerson(other);
        needKind(kind);
        if (person == other) {
            throw new IllegalArgumentException("one alone does not pull");
        }
        return shams.restsOf(person, other, kind);
    }

    public int samples(int kind, int s, int e, boolean all)
            throws IndexOutOfBoundsException, IllegalArgumentException {
        needKind(kind);
        needNumber(s, 1, MOST_PEOPLE);
        needNumber(e, 0, GREATEST);
        return all ? sets.howManyOf(s) : sets.howManySure(kind, s, e);
    }

    public int nearest() {
        int found = NONE;
        int least = 0;
        for (int p = 0; p < hall.people; p++) {
            int apart = hall.fromMan(p);
            if (found == NONE || apart < least) {
                found = p;
                least = apart;
            }
        }
        return found;
    }

    public int hates(int n) throws IllegalArgumentException {
        needNumber(n, 0, GREATEST_APART);
        int bits = 0;
        for (int p = 0; p < hall.people; p++) {
            if (hall.fromMan(p) > n) {
                bits |= 1 << p;
            }
        }
        return bits;
    }

    public int twins() {
        int pairs = 0;
        for (int p = 0; p < hall.people; p++) {
            for (int q = p + 1; q < hall.people; q++) {
                if (hall.areTwins(p, q)) {
                    pairs++;
                }
            }
        }
        return pairs;
    }

    public int village(int n) throws IllegalArgumentException {
        needNumber(n, 1, MOST_PEOPLE);
        return sets.mostLikeAll(n);
    }

    public int majority(int kind, int v) throws IndexOutOfBoundsException, IllegalArgumentException {
        needKind(kind);
        needNumber(v, 0, GREATEST);
        int weight = 0;
        for (int p = 0; p < hall.people; p++) {
            weight += hall.weights[p] * Integer.compare(hall.numberOf(p, kind), v);
        }
        return weight;
    }

    public int rank(int person, int kind) throws IndexOutOfBoundsException {
        needPerson(person);
        needKind(kind);
        int own = hall.numberOf(person, kind);
        int greater = 0;
        for (int p = 0; p < hall.people; p++) {
            if (hall.numberOf(p, kind) > own) {
                greater++;
            }
        }
        return greater;
    }

    public int range(int kind) throws IndexOutOfBoundsException {
        needKind(kind);
        hall.fill(bag, kind, hall.everyone());
        return bag.size == 0 ? 0 : bag.greatest() - bag.least();
    }

    public int trial(int kind, int n) throws IndexOutOfBoundsException, IllegalArgumentException {
        needKind(kind);
        needNumber(n, 0, LONGEST_AHEAD);
        return manAfter(kind, n, hall.seed);
    }

    public int span(int kind, int n, boolean most) throws IndexOutOfBoundsException, IllegalArgumentException {
        needKind(kind);
        needNumber(n, 0, LONGEST_AHEAD);
        int end = manAfter(kind, n, 1);
        for (int seed = 2; seed <= SPAN_SEEDS; seed++) {
            int next = manAfter(kind, n, seed);
            end = most ? Math.max(end, next) : Math.min(end, next);
        }
        return end;
    }

    public int led(int kind, int v) throws IndexOutOfBoundsException {
        needKind(kind);
        Log log = hall.log;
        for (int ago = 0; ago < log.rows; ago++) {
            if (log.manAt(ago, kind) == v) {
                return log.dayAt(ago);
            }
        }
        return NONE;
    }

    public int steady() {
        return hall.log.latestAlike();
    }

    public int log(int ago, int what) throws NoSuchElementException {
        if (what < 0 || what > 5) {
            throw new NoSuchElementException("nothing else is told of a day");
        }
        Log log = hall.log;
        if (ago < 0 || ago >= log.rows) {
            return NONE;
        }
        if (what == 0) {
            return log.dayAt(ago);
        }
        return what == 5 ? log.changedAt(ago) : log.manAt(ago, what - 1);
    }

    public int seed(int n) {
        int was = hall.seed;
        hall.seed = n;
        return was;
    }

    public boolean undo() {
        return acts.takeBack(hall);
    }

    public void image() {
        keptHall.copy(hall);
        keptLaw.copy(law);
        kept = true;
    }

    public boolean back() {
        if (!kept) {
            return false;
        }
        hall.copy(keptHall);
        law.copy(keptLaw);
        acts.forget();
        return true;
    }

    public int count(int what) {
        switch (what) {
            case 0:
                return hall.people;
            case 1:
                return hall.texts;
            case 2:
                return law.told ? law.lines : NONE;
            case 3:
                return hall.day;
            case 4:
                return hall.strike;
            case 5:
            case 6:
            case 7:
            case 8:
                return hall.rules[what - 5];
            case 9:
                return hall.stubbornBits;
            case 10:
                return hall.allWeights();
            case 11:
                return hall.log.rows;
            case 12:
                return acts.remembered;
            default:
                return NONE;
        }
    }

    private int manAfter(int kind, int n, int seed) {
        draft.copy(hall);
        draft.seed = seed;
        draft.passDays(law, bag, n, true);
        return draft.man[kind];
    }

    private void needPerson(int person) {
        if (person < 0 || person >= hall.people) {
            throw new IndexOutOfBoundsException("there is no such person");
        }
    }

    private void needKind(int kind) {
        if (kind < 0 || kind >= KINDS) {
            throw new IndexOutOfBoundsException("there is no such kind");
        }
    }

    private void needRule(int rule) {
        if (rule < 0 || rule >= RULES) {
            throw new IndexOutOfBoundsException("there is no such rule");
        }
    }

    private void needNumber(int n, int least, int most) {
        if (n < least || n > most) {
            throw new IllegalArgumentException("the number is none");
        }
    }

    private void needPeople() {
        if (hall.people == 0) {
            throw new IllegalStateException("there are no people");
        }
    }

    /** The bytes that come, and the things of which they are a text: words, numbers, signs. */
    private static final class Tape {
        static final int MOST_BYTES = 400;
        static final int MOST_DIGITS = 3;
        static final int END = 0;
        static final int WORD = 1;
        static final int NUMBER = 2;
        static final int SIGN = 3;

        final int[] bytes = new int[MOST_BYTES];
        int length = 0;
        int thing = END;
        int begin = 0;
        int behind = 0;
        int value = NONE;

        boolean hasRoomFor(int more) {
            return length + more <= MOST_BYTES;
        }

        void add(int four) {
            for (int shift = 24; shift >= 0 && length < MOST_BYTES; shift -= 8) {
                bytes[length] = (four >>> shift) & 255;
                length++;
            }
        }

        void start() {
            behind = 0;
            advance();
        }

        /** Goes on to the next thing; the end is one too, and its begin is the text's length. */
        void advance() {
            while (behind < length && bytes[behind] == ' ') {
                behind++;
            }
            begin = behind;
            while (behind < length && bytes[behind] >= 'a' && bytes[behind] <= 'z') {
                behind++;
            }
            thing = behind > begin ? WORD : END;
            value = 0;
            while (thing != WORD && behind < length && bytes[behind] >= '0' && bytes[behind] <= '9') {
                thing = NUMBER;
                // A number of too many digits is NONE, which no bounds let in.
                value = behind - begin < MOST_DIGITS ? 10 * value + bytes[behind] - '0' : NONE;
                behind++;
            }
            if (thing == END && behind < length) {
                thing = SIGN;
                behind++;
            }
        }

        boolean isEnd() {
            return thing == END;
        }

        boolean isSign(char sign) {
            return thing == SIGN && begin < length && bytes[begin] == sign;
        }

        boolean isNumber(int least, int most) {
            return thing == NUMBER && value >= least && value <= most;
        }

        boolean isWord(String word) {
            return wordAmong(word) == 0;
        }

        /** Which of some words with a blank between them is here; NONE if none of them is. */
        int wordAmong(String words) {
            if (thing != WORD) {
                return NONE;
            }
            int which = 0;
            int place = begin;
            boolean same = true;
            for (int i = 0; i < words.length(); i++) {
                char sign = words.charAt(i);
                if (sign != ' ') {
                    same = same && place < behind && bytes[place] == sign;
                    place++;
                } else if (same && place == behind) {
                    return which;
                } else {
                    which++;
                    place = begin;
                    same = true;
                }
            }
            return same && place == behind ? which : NONE;
        }
    }

    /**
     * Reads LINE { ; LINE }. What reads a part answers whether it was right; if not, it has stopped
     * at the wrong thing, so that the begin of that one is the first wrong byte.
     */
    private abstract static class Lines {
        final Tape tape;
        int taken = NONE;

        Lines(Tape tape) {
            this.tape = tape;
        }

        abstract boolean readLine();

        /** The first wrong byte, or NONE. */
        int read(int most) {
            tape.start();
            if (tape.isEnd()) {
                return NONE;
            }
            for (int lines = 0; lines < most; lines++) {
                if (!readLine()) {
                    return tape.begin;
                }
                if (tape.isEnd()) {
                    return NONE;
                }
                if (!tape.isSign(';')) {
                    return tape.begin;
                }
                tape.advance();
            }
            return tape.begin;
        }

        boolean takeNumber(int least, int most) {
            if (!tape.isNumber(least, most)) {
                return false;
            }
            taken = tape.value;
            tape.advance();
            return true;
        }
    }

    /** Reads a text of THE HALL into a hall that already has all that was told before. */
    private static final class HallText extends Lines {
        static final int MOST_LINES = 14;
        static final int GREATEST_WEIGHT = 9;
        static final int GREATEST_STRIKE = 100;
        static final int PERSON = 0;
        static final int STUBBORN = 1;
        static final int RULE = 2;
        static final int STRIKE = 3;
        static final int MAN = 4;

        private final Hall told;
        private final int[] four = new int[KINDS];

        HallText(Tape tape, Hall told) {
            super(tape);
            this.told = told;
        }

        boolean readLine() {
            int line = tape.wordAmong("person stubborn rule strike man number");
            if (line == NONE || line == PERSON && told.people >= MOST_PEOPLE) {
                return false;
            }
            tape.advance();
            switch (line) {
                case PERSON:
                    return readPerson();
                case STUBBORN:
                    return readStubborn();
                case RULE:
                    return readRule();
                case STRIKE:
                    return readStrike();
                case MAN:
                    return readMan();
                default:
                    return readOneNumber();
            }
        }

        private boolean readFour() {
            for (int kind = 0; kind < KINDS; kind++) {
                if (!takeNumber(0, GREATEST)) {
                    return false;
                }
                four[kind] = taken;
            }
            return true;
        }

        private boolean readPerson() {
            if (!readFour() || !tape.isWord("weight")) {
                return false;
            }
            tape.advance();
            if (!takeNumber(1, GREATEST_WEIGHT)) {
                return false;
            }
            told.join(four, taken);
            return true;
        }

        private boolean readStubborn() {
            if (!takeNumber(0, told.people - 1)) {
                return false;
            }
            told.makeStubborn(taken, true);
            return true;
        }

        private boolean readRule() {
            if (!takeNumber(0, KINDS - 1)) {
                return false;
            }
            int kind = taken;
            if (!takeNumber(0, RULES - 1)) {
                return false;
            }
            told.rules[kind] = taken;
            return true;
        }

        private boolean readStrike() {
            if (!takeNumber(0, GREATEST_STRIKE)) {
                return false;
            }
            told.strike = taken;
            return true;
        }

        private boolean readMan() {
            if (!readFour()) {
                return false;
            }
            System.arraycopy(four, 0, told.man, 0, KINDS);
            return true;
        }

        private boolean readOneNumber() {
            if (!takeNumber(0, told.people - 1)) {
                return false;
            }
            int person = taken;
            if (!takeNumber(0, KINDS - 1)) {
                return false;
            }
            int kind = taken;
            if (!takeNumber(0, GREATEST)) {
                return false;
            }
            told.put(person, kind, taken);
            return true;
        }
    }

    /** Reads a text of THE LAW into an empty law. */
    private static final class LawText extends Lines {
        static final int DEEPEST = 6;
        static final int GREATEST_STEP = 20;
        static final int GREATEST_PART = 999;

        private final Law told;

        LawText(Tape tape, Law told) {
            super(tape);
            this.told = told;
        }

        boolean readLine() {
            int way = tape.wordAmong("up down toward");
            if (way == NONE) {
                return false;
            }
            tape.advance();
            if (!takeNumber(0, GREATEST_STEP)) {
                return false;
            }
            told.beginLine(way, taken);
            if (tape.isWord("if")) {
                tape.advance();
                if (!readCondition(0)) {
                    return false;
                }
            }
            told.endLine();
            return true;
        }

        private boolean readCondition(int depth) {
            if (!readAll(depth)) {
                return false;
            }
            for (int i = 0; i < Tape.MOST_BYTES && tape.isWord("or"); i++) {
                tape.advance();
                if (!readAll(depth)) {
                    return false;
                }
                told.add(Law.OR);
            }
            return true;
        }

        private boolean readAll(int depth) {
            if (!readAtom(depth)) {
                return false;
            }
            for (int i = 0; i < Tape.MOST_BYTES && tape.isWord("and"); i++) {
                tape.advance();
                if (!readAtom(depth)) {
                    return false;
                }
                told.add(Law.AND);
            }
            return true;
        }

        private boolean readAtom(int depth) {
            boolean not = tape.isWord("not");
            if (not || tape.isSign('(')) {
                return depth < DEEPEST && readInner(depth + 1, not);
            }
            int side = tape.wordAmong("above below");
            if (side != NONE) {
                told.add(Law.ABOVE + side);
                tape.advance();
                return true;
            }
            if (!readSum() || !tape.isSign('<') && !tape.isSign('>')) {
                return false;
            }
            int comparison = tape.isSign('<') ? Law.LESS : Law.MORE;
            tape.advance();
            if (!readSum()) {
                return false;
            }
            told.add(comparison);
            return true;
        }

        private boolean readInner(int depth, boolean not) {
            tape.advance();
            if (not) {
                if (!readAtom(depth)) {
                    return false;
                }
                told.add(Law.NOT);
                return true;
            }
            if (!readCondition(depth) || !tape.isSign(')')) {
                return false;
            }
            tape.advance();
            return true;
        }

        private boolean readSum() {
            for (int before = 0; before < Tape.MOST_BYTES; before++) {
                int part = tape.wordAmong("who kind mine his apart day");
                if (part == NONE && !tape.isNumber(0, GREATEST_PART)) {
                    return false;
                }
                told.add(part == NONE ? tape.value : Law.WHO + part);
                if (before > 0) {
                    told.add(Law.PLUS);
                }
                tape.advance();
                if (!tape.isSign('+')) {
                    return true;
                }
                tape.advance();
            }
            return false;
        }
    }

    /** THE LAW: of each line which way it goes, by how much, and its condition as signs for a stack. */
    private static final class Law {
        static final int MOST_LINES = 12;
        static final int UP = 0;
        static final int DOWN = 1;
        // Signs below WHO are numbers; all below NOT are put on the stack, all above NOT join two.
        static final int WHO = 1000;
        static final int KIND = 1001;
        static final int MINE = 1002;
        static final int HIS = 1003;
        static final int APART = 1004;
        static final int DAY = 1005;
        static final int ABOVE = 1006;
        static final int BELOW = 1007;
        static final int NOT = 1008;
        static final int PLUS = 1009;
        static final int LESS = 1010;
        static final int MORE = 1011;
        static final int AND = 1012;
        static final int OR = 1013;

        boolean told = false;
        int lines = 0;
        private int length = 0;
        private final int[] ways = new int[MOST_LINES];
        private final int[] steps = new int[MOST_LINES];
        private final int[] ends = new int[MOST_LINES];
        // A sign comes of at least one byte, so that a tape never has more of them than this.
        private final int[] signs = new int[Tape.MOST_BYTES];
        private final int[] parts = new int[NOT - WHO];
        // At most two sides wait at each of seven depths, and a sum with its part: 17.
        private final int[] stack = new int[32];

        void clear() {
            told = false;
            lines = 0;
            length = 0;
        }

        void copy(Law other) {
            told = other.told;
            lines = other.lines;
            length = other.length;
            System.arraycopy(other.ways, 0, ways, 0, MOST_LINES);
            System.arraycopy(other.steps, 0, steps, 0, MOST_LINES);
            System.arraycopy(other.ends, 0, ends, 0, MOST_LINES);
            System.arraycopy(other.signs, 0, signs, 0, Tape.MOST_BYTES);
        }

        void beginLine(int way, int step) {
            if (lines < MOST_LINES) {
                ways[lines] = way;
                steps[lines] = step;
            }
        }

        void add(int sign) {
            if (length < Tape.MOST_BYTES) {
                signs[length] = sign;
                length++;
            }
        }

        void endLine() {
            if (lines < MOST_LINES) {
                ends[lines] = length;
                lines++;
            }
        }

        /** What a number goes to. */
        int step(int who, int kind, int mine, int his, int day) {
            int apart = Math.abs(mine - his);
            parts[WHO - WHO] = who;
            parts[KIND - WHO] = kind;
            parts[MINE - WHO] = mine;
            parts[HIS - WHO] = his;
            parts[APART - WHO] = apart;
            parts[DAY - WHO] = day;
            parts[ABOVE - WHO] = mine > his ? 1 : 0;
            parts[BELOW - WHO] = mine < his ? 1 : 0;
            int toward = 0;
            int more = 0;
            for (int line = 0; line < lines; line++) {
                if (!holds(line)) {
                    continue;
                }
                if (ways[line] == UP) {
                    more += steps[line];
                } else if (ways[line] == DOWN) {
                    more -= steps[line];
                } else {
                    toward += steps[line];
                }
            }
            toward = Math.min(toward, apart);
            int at = mine + (mine < his ? toward : -toward) + more;
            return Math.max(0, Math.min(GREATEST, at));
        }

        private boolean holds(int line) {
            int top = 0;
            for (int i = line == 0 ? 0 : ends[line - 1]; i < ends[line]; i++) {
                int sign = signs[i];
                if (sign < NOT) {
                    if (top < stack.length) {
                        stack[top] = sign < WHO ? sign : parts[sign - WHO];
                        top++;
                    }
                } else if (sign == NOT) {
                    if (top > 0) {
                        stack[top - 1] = 1 - stack[top - 1];
                    }
                } else if (top > 1) {
                    top--;
                    stack[top - 1] = joined(sign, stack[top - 1], stack[top]);
                }
            }
            return top == 0 || stack[0] == 1;
        }

        private static int joined(int sign, int one, int other) {
            switch (sign) {
                case PLUS:
                    return one + other;
                case LESS:
                    return one < other ? 1 : 0;
                case MORE:
                    return one > other ? 1 : 0;
                case AND:
                    return one & other;
                default:
                    return one | other;
            }
        }
    }

    /** All that a text of THE HALL tells and days change. */
    private static final class Hall {
        static final int LAST_DAY = 9999;

        int people = 0;
        private final int[] numbers = new int[MOST_PEOPLE * KINDS];
        final int[] weights = new int[MOST_PEOPLE];
        int stubbornBits = 0;
        final int[] rules = new int[KINDS];
        final int[] man = new int[KINDS];
        int strike = 0;
        int day = 0;
        int seed = 1;
        int texts = 0;
        final Log log = new Log();

        void copy(Hall other) {
            people = other.people;
            System.arraycopy(other.numbers, 0, numbers, 0, MOST_PEOPLE * KINDS);
            System.arraycopy(other.weights, 0, weights, 0, MOST_PEOPLE);
            stubbornBits = other.stubbornBits;
            System.arraycopy(other.rules, 0, rules, 0, KINDS);
            System.arraycopy(other.man, 0, man, 0, KINDS);
            strike = other.strike;
            day = other.day;
            seed = other.seed;
            texts = other.texts;
            log.copy(other.log);
        }

        int numberOf(int person, int kind) {
            return numbers[person * KINDS + kind];
        }

        void put(int person, int kind, int v) {
            numbers[person * KINDS + kind] = v;
        }

        boolean isStubborn(int person) {
            return (stubbornBits >>> person & 1) == 1;
        }

        void makeStubborn(int person, boolean is) {
            stubbornBits = is ? stubbornBits | 1 << person : stubbornBits & ~(1 << person);
        }

        void join(int[] four, int weight) {
            if (people < MOST_PEOPLE) {
                System.arraycopy(four, 0, numbers, people * KINDS, KINDS);
                weights[people] = weight;
                people++;
            }
        }

        void lose(int person) {
            people--;
            for (int p = person; p < people; p++) {
                System.arraycopy(numbers, (p + 1) * KINDS, numbers, p * KINDS, KINDS);
                weights[p] = weights[p + 1];
            }
            int ahead = (1 << person) - 1;
            stubbornBits = stubbornBits & ahead | stubbornBits >>> 1 & ~ahead;
        }

        int everyone() {
            return (1 << people) - 1;
        }

        int allWeights() {
            int all = 0;
            for (int p = 0; p < people; p++) {
                all += weights[p];
            }
            return all;
        }

        int fromMan(int person) {
            int apart = 0;
            for (int kind = 0; kind < KINDS; kind++) {
                apart += Math.abs(numberOf(person, kind) - man[kind]);
            }
            return apart;
        }

        boolean areTwins(int person, int other) {
            for (int kind = 0; kind < KINDS; kind++) {
                if (numberOf(person, kind) != numberOf(other, kind)) {
                    return false;
                }
            }
            return true;
        }

        boolean hasNumbersOf(Hall other) {
            for (int i = 0; i < people * KINDS; i++) {
                if (numbers[i] != other.numbers[i]) {
                    return false;
                }
            }
            return packedMan() == other.packedMan();
        }

        /** The man's four numbers in one, so that two days are compared at once. */
        int packedMan() {
            int packed = 0;
            for (int kind = 0; kind < KINDS; kind++) {
                packed |= man[kind] << Log.BITS * kind;
            }
            return packed;
        }

        void fill(Bag bag, int kind, int set) {
            bag.clear();
            for (int p = 0; p < people; p++) {
                if ((set >>> p & 1) == 1) {
                    bag.put(numberOf(p, kind), weights[p]);
                }
            }
        }

        int middleOfAll(Bag bag, int kind, int rule) {
            fill(bag, kind, everyone());
            return bag.by(rule);
        }

        int goesTo(Law law, int person, int kind) {
            int mine = numberOf(person, kind);
            return isStubborn(person) ? mine : law.step(person, kind, mine, man[kind], day);
        }

        void passDays(Law law, Bag bag, int n, boolean draws) {
            for (int i = 0; i < n; i++) {
                passDay(law, bag, draws);
            }
        }

        int loggedDay(Law law, Bag bag) {
            int today = day;
            int changed = passDay(law, bag, true);
            log.add(today, packedMan(), changed);
            return changed;
        }

        /** How many numbers changed by going. */
        int passDay(Law law, Bag bag, boolean draws) {
            for (int kind = 0; kind < KINDS && people > 0; kind++) {
                man[kind] = middleOfAll(bag, kind, rules[kind]);
            }
            int changed = 0;
            for (int p = 0; p < people; p++) {
                for (int kind = 0; kind < KINDS; kind++) {
                    int next = goesTo(law, p, kind);
                    if (next != numberOf(p, kind)) {
                        changed++;
                        put(p, kind, next);
                    }
                }
            }
            if (draws) {
                drawStrike();
            }
            day = Math.min(LAST_DAY, day + 1);
            return changed;
        }

        private void drawStrike() {
            if (draw() % 100 >= strike || people == 0) {
                return;
            }
            int person = draw() % people;
            int kind = draw() % KINDS;
            put(person, kind, draw() % 100);
        }

        private int draw() {
            seed = 1103515245 * seed + 12345;
            return seed >>> 16 & 32767;
        }
    }

    /** THE LOG: a ring of the latest days. */
    private static final class Log {
        static final int MOST_ROWS = 60;
        static final int BITS = 7;

        int rows = 0;
        private int latest = 0;
        private final int[] days = new int[MOST_ROWS];
        private final int[] men = new int[MOST_ROWS];
        private final int[] changes = new int[MOST_ROWS];

        void copy(Log other) {
            rows = other.rows;
            latest = other.latest;
            System.arraycopy(other.days, 0, days, 0, MOST_ROWS);
            System.arraycopy(other.men, 0, men, 0, MOST_ROWS);
            System.arraycopy(other.changes, 0, changes, 0, MOST_ROWS);
        }

        void add(int day, int man, int changed) {
            latest = (latest + 1) % MOST_ROWS;
            days[latest] = day;
            men[latest] = man;
            changes[latest] = changed;
            rows = Math.min(MOST_ROWS, rows + 1);
        }

        private int slot(int ago) {
            return Math.floorMod(latest - ago, MOST_ROWS);
        }

        int dayAt(int ago) {
            return days[slot(ago)];
        }

        int manAt(int ago, int kind) {
            return men[slot(ago)] >>> BITS * kind & (1 << BITS) - 1;
        }

        int changedAt(int ago) {
            return changes[slot(ago)];
        }

        int latestAlike() {
            int alike = 0;
            while (alike < rows && men[slot(alike)] == men[latest]) {
                alike++;
            }
            return alike;
        }
    }

    /** The hall as it was ahead of each of the latest acts. */
    private static final class Acts {
        static final int MOST = 12;

        int remembered = 0;
        private int next = 0;
        private final Hall[] halls = new Hall[MOST];

        Acts() {
            for (int i = 0; i < MOST; i++) {
                halls[i] = new Hall();
            }
        }

        void remember(Hall hall) {
            halls[next].copy(hall);
            next = (next + 1) % MOST;
            remembered = Math.min(MOST, remembered + 1);
        }

        boolean takeBack(Hall hall) {
            if (remembered == 0) {
                return false;
            }
            next = (next + MOST - 1) % MOST;
            remembered--;
            hall.copy(halls[next]);
            return true;
        }

        void forget() {
            remembered = 0;
        }
    }

    /** Numbers of one kind by size, and with them what their middles and shoes are reckoned from. */
    private static final class Bag {
        int size = 0;
        int sum = 0;
        int weights = 0;
        int weighted = 0;
        private final int[] sorted = new int[MOST_PEOPLE];
        // The most that so many sizes fit of the numbers from one on; none of them fits none.
        private final int[][] fitted = new int[MOST_SIZES + 1][MOST_PEOPLE + 1];

        void clear() {
            size = 0;
            sum = 0;
            weights = 0;
            weighted = 0;
        }

        void put(int v, int weight) {
            if (size >= MOST_PEOPLE) {
                return;
            }
            int at = size;
            while (at > 0 && sorted[at - 1] > v) {
                sorted[at] = sorted[at - 1];
                at--;
            }
            sorted[at] = v;
            size++;
            sum += v;
            weights += weight;
            weighted += v * weight;
        }

        void take(int v, int weight) {
            int at = 0;
            while (at < size && sorted[at] != v) {
                at++;
            }
            if (at >= size) {
                return;
            }
            size--;
            for (int i = at; i < size; i++) {
                sorted[i] = sorted[i + 1];
            }
            sum -= v;
            weights -= weight;
            weighted -= v * weight;
        }

        /** The middle by a rule; NONE of no numbers. */
        int by(int rule) {
            if (size == 0 || weights == 0) {
                return NONE;
            }
            switch (rule) {
                case 0:
                    return sum / size;
                case 1:
                    return sorted[(size - 1) / 2];
                case 2:
                    return sorted[size / 2];
                case 3:
                    return (least() + greatest()) / 2;
                case 4:
                    return commonest();
                default:
                    return weighted / weights;
            }
        }

        private int commonest() {
            int found = sorted[0];
            int most = 0;
            int alike = 0;
            for (int i = 0; i < size; i++) {
                alike = i > 0 && sorted[i] == sorted[i - 1] ? alike + 1 : 1;
                if (alike > most) {
                    most = alike;
                    found = sorted[i];
                }
            }
            return found;
        }

        int least() {
            return sorted[0];
        }

        int greatest() {
            return size == 0 ? 0 : sorted[size - 1];
        }

        int howManyAt(int v) {
            return howManyNear(v, 0);
        }

        private int howManyNear(int v, int e) {
            int near = 0;
            for (int i = 0; i < size; i++) {
                if (Math.abs(sorted[i] - v) <= e) {
                    near++;
                }
            }
            return near;
        }

        int bestSize(int e) {
            int best = 0;
            int most = 0;
            for (int v = 0; v <= GREATEST; v++) {
                int near = howManyNear(v, e);
                if (near > most) {
                    most = near;
                    best = v;
                }
            }
            return best;
        }

        int fewestSizes(int e) {
            int sizes = 0;
            int fittedTo = NONE;
            for (int i = 0; i < size; i++) {
                if (sorted[i] > fittedTo) {
                    sizes++;
                    fittedTo = sorted[i] + 2 * e;
                }
            }
            return sizes;
        }

        /** Only sizes that reach down to a number are tried: any other may go up to one and lose nobody. */
        int mostFitted(int e, int sizes) {
            for (int k = 1; k <= sizes && k <= MOST_SIZES; k++) {
                fitted[k][size] = 0;
                int behind = size;
                for (int i = size - 1; i >= 0; i--) {
                    while (behind > 0 && sorted[behind - 1] > sorted[i] + 2 * e) {
                        behind--;
                    }
                    fitted[k][i] = Math.max(fitted[k][i + 1], behind - i + fitted[k - 1][behind]);
                }
            }
            return sizes < 0 || sizes > MOST_SIZES ? 0 : fitted[sizes][0];
        }
    }

    /** What people can bring about by telling other numbers than their own. */
    private static final class Shams {
        static final int CHOICES = 3;

        private final Hall hall;
        private final Bag bag;
        private final int[] pulled = new int[CHOICES * CHOICES];

        Shams(Hall hall, Bag bag) {
            this.hall = hall;
            this.bag = bag;
        }

        private void fillWithout(int person, int kind) {
            hall.fill(bag, kind, hall.everyone() & ~(1 << person));
        }

        private int middleWith(int v, int weight, int rule) {
            bag.put(v, weight);
            int middle = bag.by(rule);
            bag.take(v, weight);
            return middle;
        }

        int farthest(int person, int kind, boolean most) {
            fillWithout(person, kind);
            int weight = hall.weights[person];
            int rule = hall.rules[kind];
            int end = middleWith(0, weight, rule);
            for (int v = 1; v <= GREATEST; v++) {
                int middle = middleWith(v, weight, rule);
                end = most ? Math.max(end, middle) : Math.min(end, middle);
            }
            return end;
        }

        /** The number by which the middle comes nearest to a person's own, or NONE. */
        int bestOf(int person, int kind, int rule) {
            fillWithout(person, kind);
            int weight = hall.weights[person];
            int own = hall.numberOf(person, kind);
            int least = Math.abs(middleWith(own, weight, rule) - own);
            int best = NONE;
            for (int v = 0; v <= GREATEST && least > 0; v++) {
                int apart = Math.abs(middleWith(v, weight, rule) - own);
                if (apart < least) {
                    least = apart;
                    best = v;
                }
            }
            return best;
        }

        boolean gains(int person, int kind, int rule) {
            return bestOf(person, kind, rule) != NONE;
        }

        boolean anyoneGains(int kind, int rule) {
            for (int p = 0; p < hall.people; p++) {
                if (gains(p, kind, rule)) {
                    return true;
                }
            }
            return false;
        }

        int howManyBefore(int person, int kind, int v) {
            fillWithout(person, kind);
            int many = 0;
            for (int was = 0; was <= GREATEST; was++) {
                if (middleWith(was, 1, 0) == v) {
                    many++;
                }
            }
            return many;
        }

        int leastBefore(int person, int kind, int v) {
            fillWithout(person, kind);
            for (int was = 0; was <= GREATEST; was++) {
                if (middleWith(was, 1, 0) == v) {
                    return was;
                }
            }
            return NONE;
        }

        int restsOf(int person, int other, int kind) {
            int own = hall.numberOf(person, kind);
            int others = hall.numberOf(other, kind);
            pullAll(person, other, kind);
            int bits = 0;
            for (int i = 0; i < CHOICES * CHOICES; i++) {
                int column = i % CHOICES;
                if (isNearest(i, column, CHOICES, own) && isNearest(i, i - column, 1, others)) {
                    bits |= 1 << i;
                }
            }
            return bits;
        }

        /** The middles of all that the two may tell. */
        private void pullAll(int person, int other, int kind) {
            hall.fill(bag, kind, hall.everyone() & ~(1 << person) & ~(1 << other));
            int weight = hall.weights[person];
            int rule = hall.rules[kind];
            for (int i = 0; i < CHOICES * CHOICES; i++) {
                int first = choice(i / CHOICES, hall.numberOf(person, kind));
                bag.put(first, weight);
                int second = choice(i % CHOICES, hall.numberOf(other, kind));
                pulled[i] = middleWith(second, hall.weights[other], rule);
                bag.take(first, weight);
            }
        }

        private static int choice(int which, int own) {
            if (which == 0) {
                return own;
            }
            return which == 1 ? 0 : GREATEST;
        }

        /** Whether of the three from first on, by steps, none is nearer than this one. */
        private boolean isNearest(int at, int first, int step, int own) {
            for (int c = 0; c < CHOICES; c++) {
                int i = first + c * step;
                if (i < pulled.length && Math.abs(pulled[i] - own) < Math.abs(pulled[at] - own)) {
                    return false;
                }
            }
            return true;
        }
    }

    /** What is asked of sets of people. */
    private static final class Sets {
        private final Hall hall;
        private final Bag bag;
        private final int[] middles = new int[KINDS];

        Sets(Hall hall, Bag bag) {
            this.hall = hall;
            this.bag = bag;
        }

        int fewestToChange(int kind, int v) {
            for (int many = 0; many <= hall.people; many++) {
                for (int set = 0; set <= hall.everyone(); set++) {
                    if (Integer.bitCount(set) == many && couldBring(kind, v, set)) {
                        return set;
                    }
                }
            }
            return NONE;
        }

        /** Whether the middle is v if those of a set tell what they must. */
        private boolean couldBring(int kind, int v, int set) {
            int many = Integer.bitCount(set);
            hall.fill(bag, kind, hall.everyone() & ~set);
            switch (hall.rules[kind]) {
                case 0:
                    return reaches(bag.sum, GREATEST * many, v, hall.people);
                case 3:
                    return couldBringHalf(v, many);
                case 5:
                    // No one's step by 1 is greater than all weights, so that none leaps over v.
                    int all = hall.allWeights();
                    return reaches(bag.weighted, GREATEST * (all - bag.weights), v, all);
                default:
                    return bringsByTellingIt(v, many, hall.rules[kind]);
            }
        }

        /** Whether a sum from least on, and up to so much more, can be v times the parts, rounded down. */
        private static boolean reaches(int least, int more, int v, int parts) {
            return least < (v + 1) * parts && least + more >= v * parts;
        }

        private boolean couldBringHalf(int v, int many) {
            if (bag.size == 0 || many == 0) {
                return bag.size == 0 || bag.by(3) == v;
            }
            // One alone can lower the least or raise the greatest, and so reach all that more could.
            return reaches(bag.greatest(), bag.least() + GREATEST - bag.greatest(), v, 2);
        }

        /** By the rules that pick one of the numbers no other number helps v more than v. */
        private boolean bringsByTellingIt(int v, int many, int rule) {
            for (int i = 0; i < many; i++) {
                bag.put(v, 1);
            }
            return bag.by(rule) == v;
        }

        int howManyOf(int size) {
            int sets = 0;
            for (int set = 0; set <= hall.everyone(); set++) {
                if (Integer.bitCount(set) == size) {
                    sets++;
                }
            }
            return sets;
        }

        int howManySure(int kind, int size, int e) {
            int rule = hall.rules[kind];
            int middle = hall.middleOfAll(bag, kind, rule);
            int sure = 0;
            for (int set = 0; set <= hall.everyone(); set++) {
                if (Integer.bitCount(set) == size && Math.abs(middleOf(set, kind) - middle) <= e) {
                    sure++;
                }
            }
            return sure;
        }

        private int middleOf(int set, int kind) {
            hall.fill(bag, kind, set);
            return bag.by(hall.rules[kind]);
        }

        int mostLikeAll(int size) {
            for (int kind = 0; kind < KINDS; kind++) {
                middles[kind] = middleOf(hall.everyone(), kind);
            }
            int found = NONE;
            int least = 0;
            for (int set = 0; set <= hall.everyone(); set++) {
                if (Integer.bitCount(set) != size) {
                    continue;
                }
                int apart = fromMiddles(set);
                if (found == NONE || apart < least) {
                    found = set;
                    least = apart;
                }
            }
            return found;
        }

        private int fromMiddles(int set) {
            int apart = 0;
            for (int kind = 0; kind < KINDS; kind++) {
                apart += Math.abs(middleOf(set, kind) - middles[kind]);
            }
            return apart;
        }
    }
}
