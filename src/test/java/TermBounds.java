import java.math.BigInteger;

/** Boundary cases of the sentences of 'Terms' that are not about texts. */
final class TermBounds extends Bounds {
    private static final int[] SEEDS = {LEAST_INT, LEAST_INT + 1, -65536, -1, 0, 1, 2, 65535, 65536, 123456789, MOST_INT - 1, MOST_INT};

    private TermBounds() {
    }

    private static void atFirst() {
        MeanMan x = new MeanMan();
        sentence("Terms", "STUBBORN or not (not at first)");
        is("a person", hall("person 1 2 3 4 weight 5").person(0, 1), 0);
        is("people", hall("person 1 2 3 4 weight 5;person 1 2 3 4 weight 5").count(9), 0);
        MeanMan left = hall("person 1 2 3 4 weight 5;stubborn 0");
        left.leave(0);
        is("one in the place of a stubborn one", hall(left, "person 1 2 3 4 weight 5").person(0, 1), 0);
        MeanMan last = hall("person 1 2 3 4 weight 5;".repeat(7) + "person 1 2 3 4 weight 5;stubborn 7");
        last.leave(7);
        is("one in the place of a stubborn eighth", hall(last, "person 1 2 3 4 weight 5").count(9), 0);
        sentence("Terms", "RULES 0 to 5, one for each KIND (0 at first)");
        for (int kind = 0; kind < 4; kind++) {
            is("of kind " + kind, x.count(5 + kind), 0);
            is("of kind " + kind + ", told", x.rule(kind, 5), 0);
            is("of kind " + kind + ", told again", x.rule(kind, 5 - kind), 5);
        }
        for (int kind = 0; kind < 4; kind++) {
            is("its own of kind " + kind, x.count(5 + kind), 5 - kind);
        }
        sentence("Terms", "THE MAN: a NUMBER of each KIND (0 each at first)");
        for (int kind = 0; kind < 4; kind++) {
            is("of kind " + kind, new MeanMan().man(kind), 0);
            is("of kind " + kind + " with people ahead of a day", hall("person 9 9 9 9 weight 1").man(kind), 0);
        }
        sentence("Terms", "DAY: 0 at first");
        is("day", new MeanMan().count(3), 0);
        is("day behind a text", hall("person 9 9 9 9 weight 1").count(3), 0);
    }

    private static void middles() {
        sentence("Terms", "MIDDLE of NUMBERS by a RULE: 0: the sum by how many they are, rounded down");
        is("1 2", row(0, 1, 2).middle(0, 0), 1);
        is("1 3", row(0, 1, 3).middle(0, 0), 2);
        is("0 99", row(0, 0, 99).middle(0, 0), 49);
        is("seven 0 and a 7", row(0, 0, 0, 0, 0, 0, 0, 0, 7).middle(0, 0), 0);
        is("seven 0 and an 8", row(0, 0, 0, 0, 0, 0, 0, 0, 8).middle(0, 0), 1);
        is("eight 99", row(0, alike(99, 8)).middle(0, 0), 99);
        is("seven 99 and a 98", row(0, 99, 99, 99, 98, 99, 99, 99, 99).middle(0, 0), 98);
        is("one", row(0, 99).middle(0, 0), 99);
        sentence("Terms", "1: of them by size the one in the middle, of two the lesser");
        is("one", row(0, 7).middle(0, 1), 7);
        is("two", row(0, 9, 3).middle(0, 1), 3);
        is("three", row(0, 9, 3, 5).middle(0, 1), 5);
        is("four", row(0, 9, 3, 5, 7).middle(0, 1), 5);
        is("seven", row(0, 70, 60, 50, 40, 30, 20, 10).middle(0, 1), 40);
        is("eight", row(0, 80, 70, 60, 50, 40, 30, 20, 10).middle(0, 1), 40);
        sentence("Terms", "2: of two the greater");
        is("one", row(0, 7).middle(0, 2), 7);
        is("two", row(0, 9, 3).middle(0, 2), 9);
        is("three", row(0, 9, 3, 5).middle(0, 2), 5);
        is("four", row(0, 9, 3, 5, 7).middle(0, 2), 7);
        is("seven", row(0, 70, 60, 50, 40, 30, 20, 10).middle(0, 2), 40);
        is("eight", row(0, 80, 70, 60, 50, 40, 30, 20, 10).middle(0, 2), 50);
        sentence("Terms", "3: the least and the greatest together, the half, rounded down");
        is("one", row(0, 99).middle(0, 3), 99);
        is("0 99", row(0, 0, 99).middle(0, 3), 49);
        is("1 99", row(0, 1, 99).middle(0, 3), 50);
        is("0 98 and between", row(0, 97, 98, 0, 96).middle(0, 3), 49);
        sentence("Terms", "4: the one there are most of (of several the least)");
        is("one", row(0, 99).middle(0, 4), 99);
        is("all once", row(0, 9, 5, 7).middle(0, 4), 5);
        is("the greatest twice", row(0, 9, 5, 7, 9).middle(0, 4), 9);
        is("two twice", row(0, 9, 5, 7, 9, 7).middle(0, 4), 7);
        is("four and four", row(0, 9, 9, 9, 9, 0, 0, 0, 0).middle(0, 4), 0);
        is("five and three", row(0, 9, 9, 9, 9, 9, 0, 0, 0).middle(0, 4), 9);
        is("a greater one thrice, a lesser twice", row(0, 5, 5, 9, 9, 9).middle(0, 4), 9);
        sentence("Terms", "5: each times the WEIGHT of who has it, the sum by all WEIGHTS together, rounded down");
        is("one", weighed(99, 9).middle(0, 5), 99);
        is("190 by 10", weighed(10, 1, 20, 9).middle(0, 5), 19);
        is("189 by 10", weighed(9, 1, 20, 9).middle(0, 5), 18);
        is("9 by 10", weighed(9, 1, 0, 9).middle(0, 5), 0);
        is("eight at both ends", weighed(99, 9, 99, 9, 99, 9, 99, 9, 99, 9, 99, 9, 99, 9, 99, 9).middle(0, 5), 99);
        is("weights are for rule 5 alone", weighed(99, 9, 0, 1).middle(0, 0), 49);
        sentence("Terms", "Without PEOPLE there is none.");
        for (int rule = 0; rule < 6; rule++) {
            int by = rule;
            refused("rule", Bounds::empty, STATE, (x, kind) -> x.middle(kind, by), 3);
        }
    }

    private static void aDay() {
        sentence("Terms", "A DAY more: THE MAN is, KIND by KIND, the MIDDLE of all by its RULE (as he was without PEOPLE)");
        MeanMan nobody = hall("man 5 6 7 8;rule 1 3");
        nobody.days(60);
        for (int kind = 0; kind < 4; kind++) {
            is("of nobody, kind " + kind, nobody.man(kind), 5 + kind);
            is("of nobody, in the log, kind " + kind, nobody.log(59, 1 + kind), 5 + kind);
        }
        MeanMan gone = hall("person 9 19 29 39 weight 1");
        gone.days(1);
        gone.leave(0);
        gone.days(1);
        is("the last one left", gone.man(3), 39);
        MeanMan kinds = hall("person 1 1 1 1 weight 1;person 4 4 4 4 weight 9;rule 1 1;rule 2 2;rule 3 5");
        kinds.days(1);
        is("by rule 0", kinds.man(0), 2);
        is("by rule 1", kinds.man(1), 1);
        is("by rule 2", kinds.man(2), 4);
        is("by rule 5", kinds.man(3), 3);
        sentence("Terms", "then each PERSON, not STUBBORN, GOES in each KIND (by what THE MAN is now)");
        MeanMan some = law(hall("person 10 10 10 10 weight 1;person 30 30 30 30 weight 1;stubborn 0;man 99 99 99 99"), "toward 20");
        is("one of two", some.days(1), 4);
        is("stubborn", some.number(0, 3), 10);
        is("not stubborn, to the man of now", some.number(1, 3), 20);
        some.stubborn(1, true);
        is("all are stubborn", some.days(60), 0);
    }

    private static int[] drawsFrom(int seed, int many) {
        BigInteger round = BigInteger.ONE.shiftLeft(32);
        BigInteger s = BigInteger.valueOf(seed);
        int[] draws = new int[many];
        for (int i = 0; i < many; i++) {
            s = s.multiply(BigInteger.valueOf(1103515245)).add(BigInteger.valueOf(12345)).mod(round);
            draws[i] = s.shiftRight(16).mod(BigInteger.ONE.shiftLeft(15)).intValue();
        }
        return draws;
    }

    private static int seedAfter(int seed, int draws) {
        BigInteger s = BigInteger.valueOf(seed);
        for (int i = 0; i < draws; i++) {
            s = s.multiply(BigInteger.valueOf(1103515245)).add(BigInteger.valueOf(12345));
        }
        return s.intValue();
    }

    /** The least seed from 0 on whose first draw, modulo 100, is this. */
    private static int seedFor(int drawn) {
        for (int seed = 0; seed < 100000; seed++) {
            if (drawsFrom(seed, 1)[0] % 100 == drawn) {
                return seed;
            }
        }
        throw new AssertionError("there is such a seed");
    }

    private static boolean strikes(int strike, int seed) {
        MeanMan x = hall("person 5 5 5 5 weight 1;strike " + strike);
        x.seed(seed);
        x.days(1);
        int after = x.seed(0);
        is("strike " + strike + " from seed " + seed + ": one draw, or four",
            after == seedAfter(seed, 1) || after == seedAfter(seed, 4), true);
        return after == seedAfter(seed, 4);
    }

    private static void draws() {
        sentence("Terms", "DRAW modulo 100 below STRIKE, and there are PEOPLE");
        for (int drawn : new int[] {0, 1, 50, 98, 99}) {
            int seed = seedFor(drawn);
            for (int strike : new int[] {0, drawn - 1, drawn, drawn + 1, 100}) {
                if (strike >= 0) {
                    is("strike " + strike + " and " + drawn, strikes(strike, seed), drawn < strike);
                }
            }
        }
        MeanMan nobody = hall("strike 100;man 1 2 3 4");
        nobody.days(1);
        is("nobody is struck, nor the man", nobody.man(0), 1);
        sentence("Terms", "of the PERSON DRAW modulo how many there are the NUMBER of the KIND DRAW modulo 4 is DRAW modulo 100");
        for (int people = 1; people <= 8; people++) {
            for (int seed : SEEDS) {
                MeanMan x = hall("strike 100;" + "person 5 5 5 5 weight 1;".repeat(people - 1) + "person 5 5 5 5 weight 1");
                x.seed(seed);
                is("a strike is no going", x.days(1), 0);
                int[] draws = drawsFrom(seed, 4);
                for (int i = 0; i < 4 * people; i++) {
                    boolean struck = i / 4 == draws[1] % people && i % 4 == draws[2] % 4;
                    is("person " + i / 4 + " of " + people + ", kind " + i % 4 + ", from seed " + seed,
                        x.number(i / 4, i % 4), struck ? draws[3] % 100 : 5);
                }
            }
        }
        sentence("Terms", "(The first DRAW is made always, the others if it comes to it.)");
        for (int seed : SEEDS) {
            is("of nobody from " + seed, seedBehind(hall("strike 100"), seed, 1), seedAfter(seed, 1));
            is("of nobody, three days, from " + seed, seedBehind(hall("strike 100"), seed, 3), seedAfter(seed, 3));
            is("strike 0 from " + seed, seedBehind(row(0, 1, 2), seed, 2), seedAfter(seed, 2));
            is("strike 100 from " + seed, seedBehind(hall(row(0, 1, 2), "strike 100"), seed, 2), seedAfter(seed, 8));
        }
        sentence("Terms", "DRAW: SEED is 1103515245 times SEED and 12345, as an int that goes round; bits 16 to 30 (SEED 1 at first)");
        is("at first", new MeanMan().seed(0), 1);
        is("from 0", seedBehind(new MeanMan(), 0, 1), 12345);
        is("from 1", seedBehind(new MeanMan(), 1, 1), 1103527590);
        is("from -1", seedBehind(new MeanMan(), -1, 1), -1103502900);
        is("from the greatest int", seedBehind(new MeanMan(), MOST_INT, 1), 1043980748);
        is("from the least int", seedBehind(new MeanMan(), LEAST_INT, 1), -2147471303);
    }

    private static int seedBehind(MeanMan x, int seed, int days) {
        x.seed(seed);
        x.days(days);
        return x.seed(seed);
    }

    private static void manyDays() {
        sentence("Terms", "DAY is 1 more (9999 at most)");
        MeanMan x = hall("person 0 0 0 0 weight 1");
        for (int i = 0; i < 166; i++) {
            x.days(60);
        }
        x.days(38);
        is("9998", x.count(3), 9998);
        // Ten times 999 and 8: less than DAY on day 9999 alone.
        law(x, "up 1 if " + "999+".repeat(10) + "8 < day");
        is("day of the law on 9998", x.goes(0, 0), 0);
        is("ahead by none", x.ahead(0, 0, 1), 0);
        is("ahead by two", x.ahead(0, 0, 2), 1);
        x.days(1);
        is("9999", x.count(3), 9999);
        is("day of the law on 9999", x.goes(0, 0), 1);
        is("log of 9998", x.log(0, 0), 9998);
        x.days(1);
        is("9999 again", x.count(3), 9999);
        is("log of 9999", x.log(0, 0), 9999);
        x.days(60);
        is("9999 for ever", x.count(3), 9999);
        is("and the people go on", x.number(0, 0), 61);
        is("60 rows of one day", x.log(59, 0), 9999);
        is("the latest row", x.led(0, 60), 9999);
        sentence("Terms", "AHEAD by N DAYS (0 to 60): as so many DAYS without DRAWS");
        String people = "person 10 99 0 50 weight 1;person 30 0 99 51 weight 3;person 70 9 9 9 weight 9;rule 1 1;rule 2 3;rule 3 5";
        String law = "toward 3;up 1 if day > 5 and kind < 2;down 2 if apart > 20 and who > 0";
        for (int n : new int[] {0, 1, 2, 59, 60}) {
            MeanMan struck = law(hall(people + ";strike 100"), law);
            MeanMan calm = law(hall(people), law);
            if (n > 0) {
                calm.days(n);
            }
            for (int kind = 0; kind < 4; kind++) {
                is("the man of kind " + kind + " by " + n, struck.ahead(-1, kind, n), calm.man(kind));
                for (int p = 0; p < 3; p++) {
                    is("person " + p + ", kind " + kind + " by " + n, struck.ahead(p, kind, n), calm.number(p, kind));
                }
            }
            is("no draw", struck.seed(1), 1);
        }
    }

    private static void actsAndLog() {
        sentence("Terms", "ACTS: a NUMBER is told; a RULE is told; a PERSON is STUBBORN, or not");
        MeanMan x = hall("person 1 2 3 4 weight 1;person 5 6 7 8 weight 2");
        x.tell(0, 0, 9);
        is("a number", x.count(12), 1);
        x.rule(0, 1);
        is("a rule", x.count(12), 2);
        x.stubborn(0, true);
        is("stubborn", x.count(12), 3);
        x.stubborn(0, false);
        is("not stubborn", x.count(12), 4);
        x.leave(0);
        is("a person leaves", x.count(12), 5);
        x.days(3);
        is("days", x.count(12), 6);
        x.seed(5);
        x.image();
        is("a seed and an image are none", x.count(12), 6);
        sentence("Terms", "a PERSON leaves (those behind have a number less); DAYS");
        for (int leaves = 0; leaves < 8; leaves++) {
            StringBuilder text = new StringBuilder("person 0 1 2 3 weight 1");
            for (int p = 1; p < 8; p++) {
                text.append(";person ").append(10 * p).append(" 1 2 ").append(p).append(" weight ").append(p + 1);
            }
            MeanMan y = hall(text + ";stubborn 0;stubborn 3;stubborn 7");
            is("seven stay", y.leave(leaves), 7);
            for (int p = 0; p < 7; p++) {
                int was = p < leaves ? p : p + 1;
                is(leaves + " left, number of " + p, y.number(p, 0), 10 * was);
                is(leaves + " left, weight of " + p, y.person(p, 0), was + 1);
                is(leaves + " left, stubborn " + p, y.person(p, 1), was == 0 || was == 3 || was == 7 ? 1 : 0);
            }
            int gone = leaves;
            dueThrow("there is no eighth when " + gone + " left", INDEX, () -> y.number(7, 0));
        }
        sentence("Terms", "THE LOG: the latest 60 DAYS: DAY, THE MAN's four NUMBERS");
        MeanMan log = law(hall("person 0 10 20 30 weight 1"), "up 1");
        log.days(59);
        is("59 rows", log.count(11), 59);
        is("the 60th ago of 59", log.log(59, 0), -1);
        log.days(1);
        is("60 rows", log.count(11), 60);
        is("the first day is there", log.log(59, 0), 0);
        is("the man of it", log.log(59, 1), 0);
        log.days(1);
        is("60 rows of 61", log.count(11), 60);
        is("the first day is gone", log.log(59, 0), 1);
        is("the 61st ago", log.log(60, 0), -1);
        for (int kind = 0; kind < 4; kind++) {
            is("the latest man of kind " + kind, log.log(0, 1 + kind), 60 + 10 * kind);
            is("the first man of kind " + kind, log.log(59, 1 + kind), 1 + 10 * kind);
        }
        log.days(60);
        is("all are new", log.log(59, 0), 61);
        sentence("Terms", "how many NUMBERS of PEOPLE changed on it (by GOING)");
        MeanMan all = law(hall("person 5 5 5 5 weight 1;".repeat(7) + "person 5 5 5 5 weight 1"), "up 1");
        is("all of eight", all.days(1), 32);
        is("in the log", all.log(0, 5), 32);
        MeanMan struck = hall("person 5 5 5 5 weight 1;strike 100");
        struck.days(5);
        is("none by strikes", struck.log(0, 5) + struck.log(4, 5), 0);
        MeanMan top = law(hall("person 98 99 99 99 weight 1"), "up 1");
        top.days(2);
        is("one of four", top.log(1, 5), 1);
        is("none at 99", top.log(0, 5), 0);
    }

    /** One of three goes, and the man, the one in the middle of each kind, stays. */
    private static MeanMan goesAlone(String law) {
        return law(hall("person 0 0 0 0 weight 1;person 50 50 50 50 weight 1;person 60 60 60 60 weight 1;stubborn 1;stubborn 2;"
            + "rule 0 1;rule 1 1;rule 2 1;rule 3 1;man 50 50 50 50"), law);
    }

    private static void settling() {
        sentence("Terms", "SETTLES: the first N (0 to 60) AHEAD by which a DAY more would change no NUMBER of PEOPLE, nor of THE MAN; none");
        is("nobody", new MeanMan().settles(), 0);
        is("at once", goesAlone("up 0").settles(), 0);
        is("behind a day", goesAlone("up 1 if day < 1").settles(), 1);
        is("behind 59", goesAlone("up 1 if day < 59 and mine < 49;down 1 if mine > 48 and day < 59 and who < 1").settles(), 59);
        is("behind 60", goesAlone("up 1 if day < 60 and mine < 49;down 1 if mine > 48 and day < 60 and who < 1").settles(), 60);
        is("behind 61", goesAlone("up 1 if day < 61 and mine < 49;down 1 if mine > 48 and day < 61 and who < 1").settles(), -1);
        is("the man is to change first", row(0, 7).settles(), 1);
        is("the man's last change on the 60th", law(row(0, 0), "up 1 if day < 59").settles(), 60);
        is("the man's last change behind it", law(row(0, 0), "up 1 if day < 60").settles(), -1);
        is("still for a while is settled", goesAlone("up 1 if day > 5").settles(), 0);
        is("one number of all", goesAlone("up 1 if who + kind < 1 and day < 9").settles(), 9);
        MeanMan later = goesAlone("up 1 if day < 20");
        later.days(5);
        is("from now on", later.settles(), 15);
        later.days(15);
        is("from there on", later.settles(), 0);
        is("without draws", hall("person 7 7 7 7 weight 1;strike 100").settles(), 1);
    }

    private static void goingRound() {
        sentence("Terms", "ROUND: the least P (1 to 30) by which all NUMBERS of PEOPLE and of THE MAN 60 DAYS AHEAD are as P DAYS before that");
        is("nobody", new MeanMan().round(), 1);
        is("still", goesAlone("up 0").round(), 1);
        is("by 2", goesAlone("up 1 if mine < 1;down 1 if mine > 0 and who < 1").round(), 2);
        is("by 29", law(row(0, 0), "up 1 if mine < 28;down 20 if mine > 27;down 8 if mine > 27").round(), 29);
        is("by 30", law(row(0, 0), "up 1 if mine < 29;down 20 if mine > 28;down 9 if mine > 28").round(), 30);
        is("by 31", law(row(0, 0), "up 1 if mine < 30;down 20 if mine > 29;down 10 if mine > 29").round(), -1);
        // Up by day n, down again from the day told: on the 60th it is where it was so many days before.
        is("29 before", goesAlone("up 1 if day < 45;down 1 if day > 45 and who < 1").round(), 29);
        is("30 before", goesAlone("up 1 if day < 45;down 1 if day > 44 and who < 1").round(), 30);
        is("31 before", goesAlone("up 1 if day < 45;down 1 if day > 43 and who < 1").round(), -1);
        is("the man alone is another", law(row(0, 0), "up 1 if day < 59").round(), -1);
        is("all are as on the day before", law(row(0, 0), "up 1 if day < 58").round(), 1);
        is("one number of all", goesAlone("up 1 if who + kind < 1 and mine < 1;down 1 if who + kind < 1 and mine > 0").round(), 2);
        is("the last number of all", law(row(1, 0, 0, 0), "up 1 if who + kind > 4 and mine < 1;down 1 if who + kind > 4 and mine > 0").round(), 2);
        MeanMan later = law(row(0, 0), "up 1 if day < 59");
        later.days(1);
        is("from now on", later.round(), 1);
        is("without draws", hall("person 7 7 7 7 weight 1;strike 100").round(), 1);
        is("without draws, by 2", hall(goesAlone("up 1 if mine < 1;down 1 if mine > 0 and who < 1"), "strike 100").round(), 2);
        sentence("Terms", "(DAYS of THE LAW not looked at)");
        is("DAY differs", goesAlone("up 0 if day > 59").round(), 1);
    }

    static void run() {
        atFirst();
        middles();
        aDay();
        draws();
        manyDays();
        actsAndLog();
        settling();
        goingRound();
    }
}
