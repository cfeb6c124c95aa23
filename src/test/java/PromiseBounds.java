/** Boundary cases of each promise: what a call takes and refuses, and that a refused one changes nothing. */
final class PromiseBounds extends Bounds {
    private static final int BLANKS = 0x20202020;

    private PromiseBounds() {
    }

    private static int blanks(MeanMan x) {
        return x.feed(BLANKS, BLANKS, BLANKS, BLANKS, BLANKS);
    }

    /** A kind is taken and refused with three people, and refused as well with none. */
    private static void kinds(String what, boolean tells, Ask ask) {
        within(what + ", kind", Bounds::busy, tells, INDEX, 0, 3, ask);
        outside(what + " of nobody, kind", Bounds::empty, INDEX, 0, 3, ask);
    }

    /** A number is refused with people and without. */
    private static void number(String what, int least, int most, Ask ask) {
        within(what, Bounds::busy, true, ARGUMENT, least, most, ask);
        within(what + " of nobody", Bounds::empty, true, ARGUMENT, least, most, ask);
    }

    private static void newObject() {
        sentence("Promise 1", "An empty hall");
        MeanMan x = new MeanMan();
        int[] counts = {-1, 0, 0, -1, 0, 0, 0, 0, 0, 0, 0, 0, 0, 0, -1};
        for (int what = -1; what <= 13; what++) {
            is("count(" + what + ")", x.count(what), counts[what + 1]);
        }
        for (int kind = 0; kind < 4; kind++) {
            is("man(" + kind + ")", x.man(kind), 0);
        }
        is("fault", x.fault(), -1);
        is("NONE", MeanMan.NONE, -1);
        is("a byte on the tape", x.end(1), false);
        is("an act to be undone", x.undo(), false);
        is("an image to go back to", x.back(), false);
        is("a row", x.log(0, 0), -1);
        is("seed", x.seed(1), 1);
        dueThrow("a person", INDEX, () -> x.number(0, 0));
        sentence("What it is", "An object is used for at most 512 calls after it has been made");
        MeanMan old = new MeanMan();
        for (int i = 1; i < 512; i++) {
            is("call " + i, old.seed(i), i == 1 ? 1 : i - 1);
        }
        is("the 512th call", old.seed(0), 511);
    }

    private static void tape() {
        sentence("Promise 2", "how many it has; NONE, and none come, if it would have more than 400");
        MeanMan x = new MeanMan();
        for (int i = 1; i <= 20; i++) {
            is("feed", blanks(x), 20 * i);
        }
        is("of 400", blanks(x), -1);
        is("none came: 401", x.end(401), false);
        is("none went: 400", x.end(400), true);
        for (int n : new int[] {399, 390, 381}) {
            x.end(n);
            is("of " + n, x.feed(0, 0, 0, 0, 0), -1);
            is("none came behind " + n, x.end(n + 1), false);
            is("none went of " + n, x.end(n), true);
        }
        x.end(380);
        is("of 380", blanks(x), 400);
        is("all of it is blanks", x.hall(), 1);
        x.end(0);
        is("of 0", blanks(x), 20);
        x.end(1);
        is("of 1", blanks(x), 21);
        sentence("Promise 2", "Twenty bytes come behind the TAPE, of each number the highest first");
        MeanMan order = new MeanMan();
        order.feed(0x73747269, 0x6b652037, 0x353b7374, 0x72696b65, 0x20353720);
        order.feed(0x3b737472, 0x696b6520, 0x31393b73, 0x7472696b, 0x65203920);
        order.end(30);
        order.hall();
        is("strike 75;strike 57 ;strike 19", order.count(4), 19);
        // A byte above 127 in each place of a number; the lower ones must not take its sign.
        int[] high = {0xff202020, 0x20ff2020, 0x2020ff20, 0x202020ff, 0x80808080};
        int[] at = {0, 1, 2, 3, 0};
        for (int i = 0; i < high.length; i++) {
            MeanMan y = new MeanMan();
            y.feed(BLANKS, high[i], BLANKS, BLANKS, BLANKS);
            dueThrow("a byte above 127", ARGUMENT, () -> y.hall());
            is("a byte above 127, fault", y.fault(), 4 + at[i]);
        }
        sentence("Promise 3", "The TAPE has its first n bytes alone: true; false, and nothing happens, if it has fewer, or n is below 0");
        for (int n : new int[] {-1, LEAST_INT, 10, 11, 400, 401, MOST_INT}) {
            MeanMan y = busy();
            is("end(" + n + ") of 9", y.end(n), false);
            same("end(" + n + ") of 9", Whole.of(y), Whole.of(busy()));
        }
        MeanMan whole = busy();
        is("end(9) of 9", whole.end(9), true);
        same("end(9) of 9", Whole.of(whole), Whole.of(busy()));
        MeanMan cut = busy();
        is("end(8) of 9", cut.end(8), true);
        is("end(9) of 8", cut.end(9), false);
        is("20 behind 8", blanks(cut), 28);
        cut.end(8);
        dueThrow("'up 7;up '", ARGUMENT, () -> cut.law());
        is("'up 7;up '", cut.fault(), 8);
        MeanMan none = new MeanMan();
        is("end(0) of none", none.end(0), true);
        is("end(1) of none", none.end(1), false);
        is("end(-1) of none", none.end(-1), false);
        MeanMan emptied = busy();
        is("end(0) of 9", emptied.end(0), true);
        is("then it has none", emptied.end(1), false);
    }

    private static void texts() {
        sentence("Promise 4", "Uses the TAPE up: a text of THE HALL: how many there are");
        MeanMan x = busy();
        feed(x, "strike 5");
        is("the second", x.hall(), 2);
        is("used up", x.end(1), false);
        is("an empty one behind it", x.hall(), 3);
        is("strike", x.count(4), 5);
        sentence("Promise 4", "IllegalArgumentException: it is wrong; UnsupportedOperationException: there are 12");
        refusedHall("strike 101", Bounds::busy, ARGUMENT, 7);
        refusedHall("strike 101", Bounds::empty, ARGUMENT, 7);
        refusedHall("strike 101", Bounds::full, ARGUMENT, 7);
        refusedHall("strike 100", Bounds::full, UNSUPPORTED, -1);
        refusedHall("up 1", MeanMan::new, ARGUMENT, 0);
        MeanMan eleven = new MeanMan();
        for (int i = 1; i <= 11; i++) {
            eleven.hall();
        }
        feed(eleven, "?");
        dueThrow("a wrong text behind 11", ARGUMENT, () -> eleven.hall());
        is("the 12th", eleven.hall(), 12);
        dueThrow("the 13th", UNSUPPORTED, () -> eleven.hall());
        dueThrow("the 13th again", UNSUPPORTED, () -> eleven.hall());
        is("a law may be told still", eleven.law(), 0);
        sentence("Promise 5", "Uses the TAPE up: THE LAW: how many LINES");
        MeanMan y = busy();
        is("two", y.law(), 2);
        is("used up", y.end(1), false);
        is("none", y.law(), 0);
        is("none is one too", y.count(2), 0);
        sentence("Promise 5", "IllegalArgumentException: the text is wrong");
        refusedLaw("up 21", Bounds::busy, 3);
        refusedLaw("up 21", Bounds::empty, 3);
        refusedLaw("up 21", Bounds::full, 3);
        refusedLaw("strike 1", MeanMan::new, 0);
        MeanMan many = new MeanMan();
        for (int i = 0; i < 20; i++) {
            is("a law in place of another", law(many, "up 1").count(2), 1);
        }
        sentence("Promise 6", "The first wrong byte of the latest text that was read; NONE without one, and ahead of any");
        MeanMan z = new MeanMan();
        is("ahead of any", z.fault(), -1);
        blanks(z);
        z.feed(0x3f202020, BLANKS, BLANKS, BLANKS, BLANKS);
        is("ahead of reading", z.fault(), -1);
        dueThrow("20 blanks and a sign", ARGUMENT, () -> z.hall());
        is("of a hall", z.fault(), 20);
        feed(z, " ".repeat(399) + "?");
        is("until the next is read", z.fault(), 20);
        dueThrow("399 blanks and a sign", ARGUMENT, () -> z.law());
        is("the last byte", z.fault(), 399);
        feed(z, "up" + " ".repeat(398));
        dueThrow("up and 398 blanks", ARGUMENT, () -> z.law());
        is("behind the last byte", z.fault(), 400);
        feed(z, "up 1");
        z.law();
        is("of a right one", z.fault(), -1);
        feed(z, "?");
        dueThrow("a sign", ARGUMENT, () -> z.hall());
        is("the first byte", z.fault(), 0);
        z.hall();
        is("of an empty one", z.fault(), -1);
    }

    private static void asking() {
        sentence("Promise 7", "Of a PERSON the NUMBER of a KIND");
        someone("number", true, (x, p) -> x.number(p, 0));
        kindsOfOne("number", true, (x, kind) -> x.number(2, kind));
        sentence("Promise 8", "Of a PERSON what 0 WEIGHT, 1 1 if STUBBORN, 2 how far from THE MAN in all KINDS together");
        someone("person", true, (x, p) -> x.person(p, 2));
        MeanMan far = hall("person 99 99 99 99 weight 9;person 0 0 0 0 weight 1;stubborn 0");
        is("weight 9", far.person(0, 0), 9);
        is("weight 1", far.person(1, 0), 1);
        is("stubborn", far.person(0, 1), 1);
        is("not stubborn", far.person(1, 1), 0);
        is("farthest", far.person(0, 2), 396);
        is("nearest", far.person(1, 2), 0);
        MeanMan under = hall("person 0 0 0 0 weight 1;man 99 99 99 99");
        is("farthest below", under.person(0, 2), 396);
        sentence("Promise 8", "NoSuchElementException: another what");
        within("what", Bounds::busy, true, ELEMENT, 0, 2, (x, what) -> x.person(0, what));
        refused("no person, another what", Bounds::busy, INDEX, (x, n) -> x.person(n, 3), 3);
        refused("nobody, another what", Bounds::empty, INDEX, (x, n) -> x.person(n, -1), 0);
        sentence("Promise 9", "THE MAN's NUMBER of a KIND");
        kinds("man", true, (x, kind) -> x.man(kind));
        is("of nobody", empty().man(3), 8);
        sentence("Promise 10", "MIDDLE of a KIND by a RULE");
        kinds("middle", true, (x, kind) -> x.middle(kind, 0));
        within("middle, rule", Bounds::busy, true, INDEX, 0, 5, (x, rule) -> x.middle(0, rule));
        outside("middle of nobody, rule", Bounds::empty, INDEX, 0, 5, (x, rule) -> x.middle(0, rule));
        sentence("Promise 10", "IllegalStateException: there are no PEOPLE");
        refused("nobody", Bounds::empty, STATE, (x, n) -> x.middle(n, 5), 3);
        refused("a new one", MeanMan::new, STATE, (x, n) -> x.middle(n, 0), 0);
        taken("one", () -> row(0, 5), true, (x, n) -> x.middle(n, 0), 0);
        MeanMan left = row(0, 5);
        left.leave(0);
        dueThrow("the last one left", STATE, () -> left.middle(0, 0));
        sentence("Promise 11", "What a NUMBER GOES to (of one who is STUBBORN: as it is)");
        someone("goes", true, (x, p) -> x.goes(p, 0));
        kindsOfOne("goes", true, (x, kind) -> x.goes(2, kind));
        MeanMan x = law(hall("person 5 5 5 5 weight 1;stubborn 0"), "up 1");
        is("stubborn", x.goes(0, 0), 5);
        x.stubborn(0, false);
        is("not stubborn", x.goes(0, 0), 6);
        x.stubborn(0, true);
        is("stubborn again", x.goes(0, 0), 5);
    }

    /** A kind of the last of three. */
    private static void kindsOfOne(String what, boolean tells, Ask ask) {
        within(what + ", kind", Bounds::busy, tells, INDEX, 0, 3, ask);
    }

    private static void acting() {
        sentence("Promise 12", "A NUMBER is told: what it was");
        someone("tell", false, (x, p) -> x.tell(p, 0, 50));
        kindsOfOne("tell", false, (x, kind) -> x.tell(2, kind, 50));
        MeanMan x = row(0, 50);
        is("what it was", x.tell(0, 0, 0), 50);
        is("0", x.tell(0, 0, 99), 0);
        is("99", x.tell(0, 0, 99), 99);
        is("in its kind alone", x.number(0, 1), 0);
        sentence("Promise 12", "IllegalArgumentException: it is none");
        within("tell", Bounds::busy, false, ARGUMENT, 0, 99, (y, v) -> y.tell(0, 0, v));
        refused("no person, no number", Bounds::busy, INDEX, (y, v) -> y.tell(3, 0, v), 100);
        refused("no kind, no number", Bounds::busy, INDEX, (y, v) -> y.tell(0, 4, v), -1);
        sentence("Promise 13", "A RULE is told: what it was");
        kinds("rule", false, (y, kind) -> y.rule(kind, 1));
        within("rule", Bounds::busy, false, INDEX, 0, 5, (y, rule) -> y.rule(0, rule));
        within("rule of nobody", Bounds::empty, false, INDEX, 0, 5, (y, rule) -> y.rule(0, rule));
        sentence("Promise 14", "STUBBORN, or not: whether that changed");
        someone("stubborn", false, (y, p) -> y.stubborn(p, true) ? 1 : 0);
        someone("not stubborn", false, (y, p) -> y.stubborn(p, false) ? 1 : 0);
        MeanMan s = row(0, alike(1, 8));
        is("the eighth is not", s.stubborn(7, false), false);
        is("the eighth is", s.stubborn(7, true), true);
        is("still", s.stubborn(7, true), false);
        is("bits", s.count(9), 128);
        is("no more", s.stubborn(7, false), true);
        is("no bits", s.count(9), 0);
        sentence("Promise 15", "A PERSON leaves: how many there are");
        someone("leave", false, (y, p) -> y.leave(p));
        MeanMan eight = row(0, alike(1, 8));
        for (int still = 7; still >= 0; still--) {
            is("leave", eight.leave(still / 2), still);
        }
        dueThrow("nobody is left", INDEX, () -> eight.leave(0));
        is("nobody", eight.count(0), 0);
        is("no weights", eight.count(10), 0);
        sentence("Promise 16", "So many DAYS more (1 to 60): how many NUMBERS of PEOPLE changed by GOING");
        is("eight by 60", law(row(0, alike(0, 8)), "up 1").days(60), 8 * 4 * 60);
        is("up to 99", law(row(0, 98), "up 20").days(60), 1 + 3 * 5);
        MeanMan day = busy();
        day.days(1);
        is("a day", day.count(3), 5);
        day.days(60);
        is("60 days", day.count(3), 65);
        sentence("Promise 16", "IllegalArgumentException: they are none");
        within("days", Bounds::busy, false, ARGUMENT, 1, 60, (y, n) -> y.days(n));
        within("days of nobody", Bounds::empty, false, ARGUMENT, 1, 60, (y, n) -> y.days(n));
    }

    private static void ahead() {
        sentence("Promise 17", "AHEAD: the NUMBER of a PERSON (person NONE: of THE MAN)");
        within("ahead, person", Bounds::busy, true, INDEX, -1, 2, (x, p) -> x.ahead(p, 0, 1));
        within("ahead of eight, person", Bounds::full, true, INDEX, -1, 7, (x, p) -> x.ahead(p, 0, 1));
        within("ahead of nobody, person", Bounds::empty, true, INDEX, -1, -1, (x, p) -> x.ahead(p, 0, 1));
        kinds("ahead of the man", true, (x, kind) -> x.ahead(-1, kind, 60));
        kindsOfOne("ahead", true, (x, kind) -> x.ahead(2, kind, 60));
        is("the man by none", busy().ahead(-1, 1, 0), busy().man(1));
        is("a person by none", busy().ahead(2, 1, 0), busy().number(2, 1));
        sentence("Promise 17", "IllegalArgumentException: N is none");
        number("ahead", 0, 60, (x, n) -> x.ahead(-1, 0, n));
        refused("no person, N none", Bounds::busy, INDEX, (x, n) -> x.ahead(3, 0, n), 61);
        refused("person -2, N none", Bounds::busy, INDEX, (x, n) -> x.ahead(-2, 0, n), -1);
        refused("no kind, N none", Bounds::busy, INDEX, (x, n) -> x.ahead(-1, 4, n), 61);
        sentence("Promise 18", "SETTLES; NONE");
        still("settles", (x, n) -> x.settles());
        is("none", law(row(0, 0, 0), "up 1 if day < 60").settles(), -1);
        sentence("Promise 19", "ROUND; NONE");
        still("round", (x, n) -> x.round());
        is("none", law(row(0, 0), "up 1 if day < 59").round(), -1);
    }

    /** A call without arguments leaves all as it was, whoever is there. */
    private static void still(String what, Ask ask) {
        taken(what, Bounds::busy, true, ask, 0);
        taken(what + " of nobody", Bounds::empty, true, ask, 0);
        taken(what + " of eight", Bounds::full, true, ask, 0);
    }

    private static void middlesAsked() {
        sentence("Promise 20", "FEWEST, as bits; NONE");
        kinds("fewest", true, (x, kind) -> x.fewest(kind, 50));
        sentence("Promise 20", "IllegalArgumentException: V is none (0 to 99); IllegalStateException: there are no PEOPLE");
        within("fewest", Bounds::busy, true, ARGUMENT, 0, 99, (x, v) -> x.fewest(0, v));
        outside("fewest of nobody", Bounds::empty, ARGUMENT, 0, 99, (x, v) -> x.fewest(0, v));
        refused("nobody, 0", Bounds::empty, STATE, (x, v) -> x.fewest(0, v), 0);
        refused("nobody, 99", Bounds::empty, STATE, (x, v) -> x.fewest(3, v), 99);
        refused("nobody, no kind, V none", Bounds::empty, INDEX, (x, v) -> x.fewest(4, v), 100);
        refused("no kind, V none", Bounds::busy, INDEX, (x, v) -> x.fewest(-1, v), 100);
        sentence("Promise 21", "TELL: RULES, as bits (0 without PEOPLE)");
        kinds("rules", true, (x, kind) -> x.rules(kind, 50));
        is("of nobody", empty().rules(0, 0) + empty().rules(0, 99), 0);
        sentence("Promise 21", "IllegalArgumentException: V is none");
        number("rules", 0, 99, (x, v) -> x.rules(0, v));
        refused("no kind, V none", Bounds::empty, INDEX, (x, v) -> x.rules(4, v), 100);
        sentence("Promise 22", "MOVES: the least (most false), or the greatest");
        someone("moves", true, (x, p) -> x.moves(p, 0, false));
        someone("moves, most", true, (x, p) -> x.moves(p, 0, true));
        kindsOfOne("moves", true, (x, kind) -> x.moves(2, kind, false));
        kindsOfOne("moves, most", true, (x, kind) -> x.moves(2, kind, true));
        sentence("Promise 23", "SHAM; NONE");
        someone("sham", true, (x, p) -> x.sham(p, 0));
        kindsOfOne("sham", true, (x, kind) -> x.sham(2, kind));
        is("none", row(0, 50, 50).sham(0, 0), -1);
        sentence("Promise 24", "HONEST, as bits");
        kinds("honest", true, (x, kind) -> x.honest(kind));
        sentence("Promise 25", "GAINERS, as bits");
        kinds("gainers", true, (x, kind) -> x.gainers(kind));
        sentence("Promise 26", "HALVES");
        kinds("halves", true, (x, kind) -> x.halves(kind) ? 1 : 0);
        sentence("Promise 27", "How many are at the MIDDLE by RULE 0 (more false), or at that and 1; 0 without PEOPLE");
        kinds("near", true, (x, kind) -> x.near(kind, false));
        kinds("near, more", true, (x, kind) -> x.near(kind, true));
        is("of nobody", empty().near(0, false) + empty().near(0, true) + new MeanMan().near(3, false), 0);
        sentence("Promise 28", "BEFORE: how many (least false), or the least; NONE");
        someone("before", true, (x, p) -> x.before(p, 0, 50, false));
        someone("before, least", true, (x, p) -> x.before(p, 0, 50, true));
        kindsOfOne("before", true, (x, kind) -> x.before(2, kind, 50, true));
        is("none", row(0, 7, 0).before(0, 0, 50, true), -1);
        is("how many of none", row(0, 7, 0).before(0, 0, 50, false), 0);
        sentence("Promise 28", "IllegalArgumentException: V is none");
        within("before", Bounds::busy, true, ARGUMENT, 0, 99, (x, v) -> x.before(0, 0, v, false));
        within("before, least", Bounds::busy, true, ARGUMENT, 0, 99, (x, v) -> x.before(0, 0, v, true));
        refused("no person, V none", Bounds::busy, INDEX, (x, v) -> x.before(3, 0, v, true), 100);
        refused("no kind, V none", Bounds::busy, INDEX, (x, v) -> x.before(0, -1, v, false), -1);
    }

    private static void shoesAsked() {
        sentence("Promise 29", "SIZES: the fewest (0 without PEOPLE)");
        kinds("sizes", true, (x, kind) -> x.sizes(kind, 5));
        is("of nobody", empty().sizes(0, 0) + empty().sizes(0, 20), 0);
        sentence("Promise 29", "IllegalArgumentException: E is none");
        number("sizes", 0, 20, (x, e) -> x.sizes(0, e));
        refused("no kind, E none", Bounds::busy, INDEX, (x, e) -> x.sizes(4, e), 21);
        sentence("Promise 30", "SIZES: the most PEOPLE");
        kinds("fits", true, (x, kind) -> x.fits(kind, 5, 2));
        sentence("Promise 30", "IllegalArgumentException: E or so many are none");
        number("fits, E", 0, 20, (x, e) -> x.fits(0, e, 4));
        number("fits, sizes", 1, 4, (x, k) -> x.fits(0, 20, k));
        refused("no kind, E and sizes none", Bounds::busy, INDEX, (x, e) -> x.fits(4, e, 5), 21);
        refused("E and sizes none", Bounds::busy, ARGUMENT, (x, e) -> x.fits(0, e, 0), -1);
        sentence("Promise 31", "SHOE");
        kinds("shoe", true, (x, kind) -> x.shoe(kind, 5));
        sentence("Promise 31", "IllegalArgumentException: E is none");
        number("shoe", 0, 20, (x, e) -> x.shoe(0, e));
        refused("no kind, E none", Bounds::busy, INDEX, (x, e) -> x.shoe(-1, e), 21);
        sentence("Promise 32", "RESTS of a PULL, as bits");
        within("pull, the one", Bounds::busy, true, INDEX, 0, 1, (x, p) -> p > 1 ? x.pull(3, 2, 0) : x.pull(p, 2, 0));
        within("pull, the other one", Bounds::busy, true, INDEX, 1, 2, (x, p) -> p == 0 ? x.pull(0, -1, 0) : x.pull(0, p, 0));
        within("pull of eight, the one", Bounds::full, true, INDEX, 0, 6, (x, p) -> p > 6 ? x.pull(8, 7, 0) : x.pull(p, 7, 0));
        kindsOfOne("pull", true, (x, kind) -> x.pull(0, 2, kind));
        outside("pull of nobody", Bounds::empty, INDEX, 0, -1, (x, p) -> x.pull(p, p, 0));
        sentence("Promise 32", "IllegalArgumentException: both are one");
        for (int p = 0; p < 3; p++) {
            refused("both are " + p, Bounds::busy, ARGUMENT, (x, n) -> x.pull(n, n, 0), p);
        }
        refused("both are one, who is not", Bounds::busy, INDEX, (x, n) -> x.pull(n, n, 0), 3);
        refused("both are one, no kind", Bounds::busy, INDEX, (x, n) -> x.pull(n, n, 4), 0);
        sentence("Promise 33", "SAMPLES: in how many (all false), or of how many");
        kinds("samples", true, (x, kind) -> x.samples(kind, 2, 5, false));
        kinds("samples, all", true, (x, kind) -> x.samples(kind, 2, 5, true));
        sentence("Promise 33", "IllegalArgumentException: S or E are none");
        number("samples, S", 1, 8, (x, s) -> x.samples(0, s, 5, false));
        number("samples of all, S", 1, 8, (x, s) -> x.samples(0, s, 5, true));
        number("samples, E", 0, 99, (x, e) -> x.samples(0, 2, e, false));
        number("samples of all, E", 0, 99, (x, e) -> x.samples(0, 2, e, true));
        refused("no kind, S and E none", Bounds::busy, INDEX, (x, s) -> x.samples(4, s, 100, true), 9);
    }

    private static void nearAndFarAsked() {
        sentence("Promise 34", "NEAREST; NONE");
        still("nearest", (x, n) -> x.nearest());
        is("nobody", empty().nearest(), -1);
        sentence("Promise 35", "HATES, as bits");
        is("nobody", empty().hates(0), 0);
        sentence("Promise 35", "IllegalArgumentException: N is none");
        number("hates", 0, 400, (x, n) -> x.hates(n));
        sentence("Promise 36", "TWINS");
        still("twins", (x, n) -> x.twins());
        is("nobody", empty().twins(), 0);
        is("full", full().twins(), 3);
        sentence("Promise 37", "VILLAGE, as bits; NONE");
        is("three of three", busy().village(3), 7);
        is("four of three", busy().village(4), -1);
        is("one of nobody", empty().village(1), -1);
        is("eight of eight", full().village(8), 255);
        sentence("Promise 37", "IllegalArgumentException: N is none");
        number("village", 1, 8, (x, n) -> x.village(n));
        sentence("Promise 38", "MAJORITY (may be below 0)");
        kinds("majority", true, (x, kind) -> x.majority(kind, 50));
        is("below 0", row(0, 1).majority(0, 2), -1);
        sentence("Promise 38", "IllegalArgumentException: V is none");
        number("majority", 0, 99, (x, v) -> x.majority(0, v));
        refused("no kind, V none", Bounds::busy, INDEX, (x, v) -> x.majority(4, v), 100);
        sentence("Promise 39", "RANK");
        someone("rank", true, (x, p) -> x.rank(p, 0));
        kindsOfOne("rank", true, (x, kind) -> x.rank(2, kind));
        sentence("Promise 40", "RANGE");
        kinds("range", true, (x, kind) -> x.range(kind));
        sentence("Promise 41", "TRIAL");
        kinds("trial", true, (x, kind) -> x.trial(kind, 60));
        sentence("Promise 41", "IllegalArgumentException: N is none");
        number("trial", 0, 60, (x, n) -> x.trial(0, n));
        refused("no kind, N none", Bounds::busy, INDEX, (x, n) -> x.trial(4, n), 61);
        sentence("Promise 42", "SPAN: the least (most false), or the greatest");
        kinds("span", true, (x, kind) -> x.span(kind, 60, false));
        kinds("span, most", true, (x, kind) -> x.span(kind, 60, true));
        is("of no days both are the man's", busy().span(2, 0, false) - busy().span(2, 0, true), 0);
        sentence("Promise 42", "IllegalArgumentException: N is none");
        number("span", 0, 60, (x, n) -> x.span(0, n, false));
        number("span, most", 0, 60, (x, n) -> x.span(0, n, true));
        refused("no kind, N none", Bounds::busy, INDEX, (x, n) -> x.span(4, n, true), -1);
    }

    private static void logAsked() {
        sentence("Promise 43", "LED; NONE");
        kinds("led", true, (x, kind) -> x.led(kind, 50));
        for (int v : new int[] {-1, 100, LEAST_INT, MOST_INT}) {
            is("no number at all, " + v, busy().led(0, v), -1);
        }
        is("without rows", new MeanMan().led(0, 0), -1);
        sentence("Terms", "LED: the DAY of the latest row of THE LOG in which THE MAN's NUMBER of a KIND is V; none");
        MeanMan x = law(row(0, 0), "up 1 if mine < 1;down 1 if mine > 0");
        x.days(60);
        is("0, the latest but one", x.led(0, 0), 58);
        is("1, the latest", x.led(0, 1), 59);
        is("2, none", x.led(0, 2), -1);
        MeanMan once = law(row(0, 5), "up 1");
        once.days(60);
        is("the first row is the last of 60", once.led(0, 5), 0);
        once.days(1);
        is("and gone with the 61st", once.led(0, 5), -1);
        is("the second row is there", once.led(0, 6), 1);
        sentence("Promise 44", "STEADY (0 without rows)");
        still("steady", (y, n) -> y.steady());
        is("without rows", new MeanMan().steady(), 0);
        sentence("Terms", "STEADY: how many rows of THE LOG one behind another, from the latest one back, have the same four NUMBERS of THE MAN");
        MeanMan s = row(0, 5);
        int[] days = {1, 1, 57, 1, 1, 60};
        int[] due = {1, 2, 59, 60, 60, 60};
        for (int i = 0; i < days.length; i++) {
            s.days(days[i]);
            is("days " + days[i], s.steady(), due[i]);
        }
        for (int kind = 0; kind < 4; kind++) {
            s.tell(0, kind, 50);
            s.days(1);
            is("another of kind " + kind, s.steady(), 1);
            s.days(2);
            is("and two more", s.steady(), 3);
        }
        sentence("Promise 45", "THE LOG so many ago (0 the latest) what 0 DAY, 1 to 4 THE MAN's NUMBERS, 5 how many changed; NONE without");
        int[] ago = {-1, 4, 59, 60, LEAST_INT, MOST_INT};
        for (int n : ago) {
            is(n + " ago of four rows", busy().log(n, 0), -1);
            is(n + " ago of four rows, 5", busy().log(n, 5), -1);
        }
        is("the first of four", busy().log(3, 0), 0);
        is("the latest of four", busy().log(0, 0), 3);
        is("0 ago of none", new MeanMan().log(0, 0), -1);
        sentence("Promise 45", "NoSuchElementException: another what");
        within("log, what", Bounds::busy, true, ELEMENT, 0, 5, (y, what) -> y.log(0, what));
        outside("log without such a row, what", Bounds::busy, ELEMENT, 0, 5, (y, what) -> y.log(99, what));
        outside("log without rows, what", MeanMan::new, ELEMENT, 0, 5, (y, what) -> y.log(0, what));
    }

    private static void undoing() {
        sentence("Promise 46", "SEED: what it was");
        MeanMan x = new MeanMan();
        int was = 1;
        for (int n : new int[] {LEAST_INT, MOST_INT, 0, -1, 1}) {
            is("seed", x.seed(n), was);
            was = n;
        }
        sentence("Promise 47", "UNDONE: whether there was one");
        is("none", new MeanMan().undo(), false);
        MeanMan none = hall("strike 5");
        none.undo();
        same("none, and nothing happens", Whole.of(none), Whole.of(hall("strike 5")));
        MeanMan one = row(0, 5);
        one.tell(0, 0, 6);
        is("one", one.undo(), true);
        same("as ahead of it", Whole.of(one), Whole.of(row(0, 5)));
        sentence("Terms", "UNDONE: the latest ACT not undone yet (12 are remembered; DAYS of one call are one)");
        for (int acts : new int[] {11, 12, 13, 24, 25}) {
            MeanMan y = row(0, 99);
            for (int i = 0; i < acts; i++) {
                y.tell(0, 0, i);
            }
            int remembered = Math.min(acts, 12);
            is(acts + " acts", y.count(12), remembered);
            for (int i = 1; i <= remembered; i++) {
                is("undone " + i + " of " + acts, y.undo(), true);
                is("left of " + acts, y.count(12), remembered - i);
                is("as it was " + i + " ago of " + acts, y.number(0, 0), i == acts ? 99 : acts - i - 1);
            }
            is("no more of " + acts, y.undo(), false);
        }
        MeanMan again = row(0, 99);
        for (int i = 0; i < 12; i++) {
            again.tell(0, 0, i);
        }
        again.undo();
        again.undo();
        again.undo();
        for (int i = 50; i < 55; i++) {
            again.tell(0, 0, i);
        }
        is("9 and 5 are 12", again.count(12), 12);
        for (int i = 0; i < 5; i++) {
            again.undo();
        }
        is("behind the five", again.number(0, 0), 8);
        for (int i = 0; i < 7; i++) {
            is("and seven more", again.undo(), true);
        }
        is("not the first two", again.number(0, 0), 1);
        is("none", again.undo(), false);
        MeanMan days = hall("person 5 5 5 5 weight 1;strike 100");
        days.days(60);
        days.days(60);
        days.undo();
        is("60 days are one", days.count(3), 60);
        is("and its rows", days.log(59, 0), 0);
        days.undo();
        same("all are", Whole.of(days), Whole.of(hall("person 5 5 5 5 weight 1;strike 100")));
        everyActUndone();
    }

    private static void everyActUndone() {
        sentence("Terms", "all is as ahead of it (but for the TAPE, fault(), THE IMAGE)");
        Ask[] acts = {(x, n) -> x.tell(1, 1, 99), (x, n) -> x.tell(1, 1, 25), (x, n) -> x.rule(1, 5), (x, n) -> x.rule(1, 4),
            (x, n) -> x.stubborn(0, true) ? 1 : 0, (x, n) -> x.stubborn(1, false) ? 1 : 0, (x, n) -> x.stubborn(1, true) ? 1 : 0,
            (x, n) -> x.leave(0), (x, n) -> x.leave(1), (x, n) -> x.leave(2), (x, n) -> x.days(1), (x, n) -> x.days(60)};
        for (int i = 0; i < acts.length; i++) {
            MeanMan x = busy();
            acts[i].of(x, 0);
            is("act " + i, x.count(12), 5);
            x.seed(99);
            is("act " + i, x.undo(), true);
            same("act " + i, Whole.of(x), Whole.of(busy()));
        }
        MeanMan y = busy();
        y.days(60);
        y.image();
        feed(y, "?");
        dueThrow("a wrong law", ARGUMENT, () -> y.law());
        y.end(0);
        blanks(y);
        y.undo();
        is("the tape stays", y.end(20), true);
        is("fault stays", y.fault(), 0);
        is("day", y.count(3), 4);
        is("the image stays", y.back(), true);
        is("day of the image", y.count(3), 64);
        sentence("Terms", "A text, going back: none are remembered");
        MeanMan hall = busy();
        hall.end(0);
        hall.hall();
        is("an empty hall", hall.count(12), 0);
        is("none to undo", hall.undo(), false);
        MeanMan law = busy();
        law.end(0);
        law.law();
        is("an empty law", law.count(12), 0);
        is("none to undo by then", law.undo(), false);
        MeanMan back = busy();
        back.back();
        is("back", back.count(12), 0);
        is("none to undo from there", back.undo(), false);
        MeanMan noImage = row(0, 5);
        noImage.tell(0, 0, 6);
        noImage.back();
        is("back to none: it is remembered", noImage.count(12), 1);
        MeanMan wrong = busy();
        feed(wrong, "?");
        dueThrow("a wrong text", ARGUMENT, () -> wrong.hall());
        is("a wrong text: they are remembered", wrong.count(12), 4);
    }

    private static void images() {
        sentence("Promise 48", "THE IMAGE is kept");
        MeanMan x = busy();
        x.image();
        x.leave(0);
        is("back", x.back(), true);
        is("the later of two", x.count(3) * 10 + x.count(0), 43);
        MeanMan quiet = row(0, 5);
        quiet.tell(0, 0, 6);
        quiet.image();
        is("acts stay", quiet.count(12), 1);
        is("and are undone", quiet.undo(), true);
        is("as ahead", quiet.number(0, 0), 5);
        sentence("Terms", "THE IMAGE (one) of all may be kept, and gone back to (but for the TAPE, fault() and THE IMAGE itself)");
        MeanMan whole = full();
        whole.image();
        whole.days(60);
        whole.seed(LEAST_INT);
        whole.rule(3, 5);
        whole.leave(7);
        whole.leave(0);
        whole.stubborn(0, true);
        law(whole, "up 20;down 1");
        feed(whole, "up ?");
        dueThrow("a wrong law", ARGUMENT, () -> whole.law());
        feed(whole, "up 7;up 8");
        whole.back();
        is("fault stays", whole.fault(), 3);
        is("the tape stays", whole.end(9), true);
        MeanMan same = full();
        same.image();
        same.back();
        same("all", Whole.of(whole).subList(1, 100), Whole.of(same).subList(1, 100));
        MeanMan lawful = law(row(0, 5), "up 1");
        lawful.image();
        law(lawful, "up 2;up 3");
        is("the law of then", lawful.goes(0, 0), 10);
        lawful.back();
        is("the law of the image", lawful.goes(0, 0), 6);
        is("its lines", lawful.count(2), 1);
        MeanMan twice = busy();
        twice.back();
        twice.days(60);
        is("a second time", twice.back(), true);
        is("as at the first", twice.count(3), 2);
        is("and a third", twice.back(), true);
        sentence("Promise 49", "One goes back to THE IMAGE: true; false, and nothing happens, if none was kept");
        MeanMan none = full();
        is("none", none.back(), false);
        same("nothing happens", Whole.of(none), Whole.of(full()));
        is("one", busy().back(), true);
        MeanMan bare = new MeanMan();
        bare.image();
        hall(bare, "person 1 2 3 4 weight 5;strike 9;rule 0 3");
        law(bare, "up 1");
        bare.days(3);
        bare.back();
        MeanMan bareToo = new MeanMan();
        bareToo.image();
        same("an image of an empty hall", Whole.of(bare), Whole.of(bareToo));
    }

    private static void counts() {
        sentence("Promise 50", "0 PEOPLE, 1 texts of THE HALL, 2 LINES of THE LAW (NONE without one), 3 DAY, 4 STRIKE, 5 to 8 RULES of KINDS 0 to 3");
        int[] due = {3, 1, 2, 4, 40, 0, 4, 5, 2, 2, 12, 4, 4};
        for (int what = 0; what < due.length; what++) {
            is("count(" + what + ")", busy().count(what), due[what]);
        }
        is("lines without a law", full().count(2), -1);
        is("all are there", full().count(0), 8);
        is("all texts", full().count(1), 12);
        sentence("Promise 50", "9 STUBBORN ones, as bits, 10 WEIGHTS together, 11 rows of THE LOG, 12 acts that can be UNDONE");
        MeanMan x = hall("person 1 1 1 1 weight 9;".repeat(7) + "person 1 1 1 1 weight 9");
        for (int p = 0; p < 8; p++) {
            x.stubborn(p, true);
        }
        is("all are stubborn", x.count(9), 255);
        is("the most weight", x.count(10), 72);
        is("eight acts", x.count(12), 8);
        is("no stubborn one", empty().count(9), 0);
        is("no weight", empty().count(10), 0);
        sentence("Promise 50", "NONE for another what");
        for (int what : new int[] {-1, 13, 14, LEAST_INT, MOST_INT}) {
            is("count(" + what + ")", busy().count(what), -1);
        }
    }

    /** Three were asked for everything, and then all left. */
    private static MeanMan left() {
        MeanMan x = hall("person 99 98 97 96 weight 9;person 95 94 93 92 weight 8;person 91 98 89 88 weight 7;man 99 99 99 99");
        for (int kind = 0; kind < 4; kind++) {
            x.middle(kind, 4);
            x.rules(kind, 98);
            x.sizes(kind, 0);
            x.fits(kind, 0, 4);
            x.samples(kind, 2, 9, false);
            x.pull(0, 1, kind);
            x.range(kind);
        }
        x.leave(2);
        x.leave(0);
        x.leave(0);
        return x;
    }

    private static void whenAllLeft() {
        MeanMan x = left();
        sentence("Promise 15", "how many there are");
        is("nobody", x.count(0), 0);
        sentence("Promise 10", "there are no PEOPLE");
        refused("middle", PromiseBounds::left, STATE, (y, n) -> y.middle(n, 0), 0);
        sentence("Promise 20", "there are no PEOPLE");
        refused("fewest", PromiseBounds::left, STATE, (y, n) -> y.fewest(n, 98), 0);
        sentence("Promise 21", "(0 without PEOPLE)");
        is("rules", x.rules(0, 99) + x.rules(0, 0) + x.rules(0, 98), 0);
        sentence("Promise 27", "0 without PEOPLE");
        is("near", x.near(0, false) + x.near(0, true), 0);
        sentence("Promise 29", "(0 without PEOPLE)");
        is("sizes", x.sizes(0, 0) + x.sizes(0, 20), 0);
        sentence("Promise 30", "SIZES: the most PEOPLE");
        is("fits", x.fits(0, 0, 1) + x.fits(0, 20, 4), 0);
        sentence("Promise 31", "SHOE");
        is("shoe", x.shoe(0, 0) + x.shoe(0, 20), 0);
        sentence("Promise 34", "NONE");
        is("nearest", x.nearest(), -1);
        sentence("Promise 37", "NONE");
        is("village", x.village(1), -1);
        sentence("Terms", "(not so without PEOPLE)");
        is("halves", x.halves(0), false);
        sentence("Terms", "(0 without PEOPLE)");
        is("range", x.range(0), 0);
        sentence("Terms", "none there are, if S is more than PEOPLE");
        is("samples", x.samples(0, 1, 99, false) + x.samples(0, 1, 99, true), 0);
        sentence("Terms", "Sets are bits; of none they count for nothing");
        is("gainers", x.gainers(0), 0);
        is("hates", x.hates(0), 0);
        is("stubborn", x.count(9), 0);
        is("pairs of twins", x.twins(), 0);
        is("votes", x.majority(0, 50), 0);
        sentence("Terms", "(as he was without PEOPLE)");
        is("trial", x.trial(1, 60), 99);
        is("span", x.span(1, 60, true), 99);
        is("settles", x.settles(), 0);
        is("round", x.round(), 1);
    }

    private static void exceptions() {
        sentence("Terms", "Of several exceptions the one told first is thrown; a call that throws changes nothing but the TAPE, where it is used up");
        refused("person: no person, another what", Bounds::busy, INDEX, (x, n) -> x.person(n, n), 3);
        refused("middle: no kind, nobody", Bounds::empty, INDEX, (x, n) -> x.middle(n, 0), 4);
        refused("middle: no rule, nobody", Bounds::empty, INDEX, (x, n) -> x.middle(0, n), 6);
        refused("tell: nothing is right", Bounds::busy, INDEX, (x, n) -> x.tell(n, n, n), -1);
        refused("ahead: nothing is right", Bounds::busy, INDEX, (x, n) -> x.ahead(n, n, n), 61);
        refused("fewest: nothing is right, nobody", Bounds::empty, INDEX, (x, n) -> x.fewest(n, n), -1);
        refused("fewest: V none, nobody", Bounds::empty, ARGUMENT, (x, n) -> x.fewest(0, n), -1);
        refused("rules: nothing is right", Bounds::busy, INDEX, (x, n) -> x.rules(n, n), -1);
        refused("before: nothing is right", Bounds::busy, INDEX, (x, n) -> x.before(n, n, n, true), -1);
        refused("sizes: nothing is right", Bounds::busy, INDEX, (x, n) -> x.sizes(n, n), -1);
        refused("fits: nothing is right", Bounds::busy, INDEX, (x, n) -> x.fits(n, n, n), -1);
        refused("shoe: nothing is right", Bounds::busy, INDEX, (x, n) -> x.shoe(n, n), -1);
        refused("pull: nothing is right", Bounds::busy, INDEX, (x, n) -> x.pull(n, n, n), -1);
        refused("samples: nothing is right", Bounds::busy, INDEX, (x, n) -> x.samples(n, n, n, true), -1);
        refused("majority: nothing is right", Bounds::busy, INDEX, (x, n) -> x.majority(n, n), -1);
        refused("trial: nothing is right", Bounds::busy, INDEX, (x, n) -> x.trial(n, n), -1);
        refused("span: nothing is right", Bounds::busy, INDEX, (x, n) -> x.span(n, n, true), -1);
        refusedHall("wrong", Bounds::full, ARGUMENT, 0);
        refusedHall("strike 1", Bounds::full, UNSUPPORTED, -1);
        refusedLaw("wrong", Bounds::full, 0);
        sentence("Terms", "IndexOutOfBoundsException: there is no such PERSON, KIND, RULE");
        refused("no rule", Bounds::busy, INDEX, (x, n) -> x.rule(0, n), 6);
        refused("no rule below 0", Bounds::busy, INDEX, (x, n) -> x.rule(0, n), -1);
        sentence("Terms", "IllegalArgumentException: a number is none, or two are one");
        refused("a number is none", Bounds::busy, ARGUMENT, (x, n) -> x.tell(0, 0, n), 100);
        refused("two are one", Bounds::busy, ARGUMENT, (x, n) -> x.pull(n, n, 0), 1);
        sentence("Terms", "IllegalStateException: there are no PEOPLE");
        refused("middle", Bounds::empty, STATE, (x, n) -> x.middle(0, n), 0);
        refused("fewest", Bounds::empty, STATE, (x, n) -> x.fewest(0, n), 0);
        sentence("Terms", "Sets are bits; of none they count for nothing");
        MeanMan nobody = empty();
        is("gainers", nobody.gainers(0), 0);
        is("hates", nobody.hates(0), 0);
        is("stubborn", nobody.count(9), 0);
        is("rules that tell it", nobody.rules(0, 0), 0);
        is("samples", nobody.samples(0, 1, 99, true), 0);
        is("fewest that is none", row(0, 5).fewest(0, 5), 0);
    }

    static void run() {
        newObject();
        tape();
        texts();
        asking();
        acting();
        ahead();
        middlesAsked();
        shoesAsked();
        nearAndFarAsked();
        logAsked();
        undoing();
        images();
        counts();
        whenAllLeft();
        exceptions();
    }
}
