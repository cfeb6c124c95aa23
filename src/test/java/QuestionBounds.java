/** Boundary cases of what is asked of people as they are: the sentences of 'Terms' from FEWEST to SPAN. */
final class QuestionBounds extends Bounds {
    private static final int ALL = 255;

    private QuestionBounds() {
    }

    private static void fewest() {
        sentence("Terms", "FEWEST for a KIND and a NUMBER V: the fewest PEOPLE whose NUMBERS would have to be told anew (any)");
        int[] from0To99 = {ALL, 31, 15, ALL, 31, ALL};
        int[] from99To0 = {ALL, 15, 31, ALL, 15, ALL};
        for (int rule = 0; rule < 6; rule++) {
            is("eight 0 to 99 by rule " + rule, row(rule, alike(0, 8)).fewest(0, 99), from0To99[rule]);
            is("eight 99 to 0 by rule " + rule, row(rule, alike(99, 8)).fewest(0, 0), from99To0[rule]);
            is("nobody must by rule " + rule, row(rule, alike(99, 8)).fewest(0, 99), 0);
            is("one alone by rule " + rule, row(rule, 50).fewest(0, 0), 1);
            is("one alone to 99 by rule " + rule, row(rule, 50).fewest(0, 99), 1);
            is("one alone, as it is, by rule " + rule, row(rule, 50).fewest(0, 50), 0);
        }
        int[] middles = {40, 20, 60, 49, 60, 40};
        for (int rule = 0; rule < 6; rule++) {
            is("nobody must of eight by rule " + rule, row(rule, 60, 0, 20, 98, 60, 20, 60, 2).fewest(0, middles[rule]), 0);
        }
        sentence("Terms", "so that the MIDDLE by the RULE of that KIND is V: of several sets the least as bits; none");
        is("all of two could, the first does", row(0, 50, 50).fewest(0, 51), 1);
        is("one tells 99: 12 at most", row(0, alike(0, 8)).fewest(0, 12), 1);
        is("and 13 by two", row(0, alike(0, 8)).fewest(0, 13), 3);
        is("one tells 0: 86 at least", row(0, alike(99, 8)).fewest(0, 86), 1);
        is("and 85 by two", row(0, alike(99, 8)).fewest(0, 85), 3);
        is("49 is in reach of one by rule 3", row(3, 0, 0, 0).fewest(0, 49), 1);
        is("50 is not", row(3, 0, 0, 0).fewest(0, 50), 7);
        is("49 from above", row(3, 99, 99, 99).fewest(0, 49), 1);
        is("48 is not", row(3, 99, 99, 99).fewest(0, 48), 7);
        is("the one who is the least", row(3, 40, 80, 60).fewest(0, 40), 1);
        is("the one who is the greatest", row(3, 40, 80, 60).fewest(0, 39), 2);
        is("by that one as far as it goes", row(3, 40, 80, 60).fewest(0, 30), 2);
        is("and by two beyond it", row(3, 40, 80, 60).fewest(0, 29), 6);
        is("by one as far up as it goes", row(3, 40, 80, 60).fewest(0, 79), 1);
        is("and by two beyond that", row(3, 40, 80, 60).fewest(0, 80), 5);
        is("of a tie the least number wins by rule 4", row(4, 5, 5, 9, 9).fewest(0, 9), 1);
        is("and a lesser one needs a tie alone", row(4, 5, 5, 9).fewest(0, 4), 1);
        is("a light one by rule 5", weighed(0, 1, 0, 9).fewest(0, 9), 1);
        is("a heavy one by rule 5", weighed(0, 1, 0, 9).fewest(0, 10), 2);
        is("both by rule 5", weighed(0, 1, 0, 9).fewest(0, 90), 3);
        is("by the light one, down", weighed(99, 1, 99, 9).fewest(0, 89), 1);
        is("by the heavy one, down", weighed(99, 1, 99, 9).fewest(0, 88), 2);
        for (int v = 0; v <= 99; v += 9) {
            int bits = row(0, 1, 99, 50).fewest(0, v);
            is("there is always one, " + v, bits >= 0 && bits <= 7, true);
        }
        sentence("Terms", "TELL: RULES by which the MIDDLE of a KIND is V, as bits");
        is("all", row(0, alike(99, 8)).rules(0, 99), 63);
        is("all at 0", row(0, alike(0, 8)).rules(0, 0), 63);
        is("none", row(0, alike(0, 8)).rules(0, 1), 0);
        is("lesser, commonest", row(0, 0, 99).rules(0, 0), 18);
        is("greater", row(0, 0, 99).rules(0, 99), 4);
        is("sum, half, weights", row(0, 0, 99).rules(0, 49), 41);
    }

    private static void movesAndShams() {
        sentence("Terms", "MOVES of a PERSON: the least and the greatest MIDDLE of a KIND that this one could bring about by any NUMBER of its own");
        int[] least = {43, 50, 50, 25, 50, 43};
        int[] most = {56, 50, 50, 74, 50, 56};
        for (int rule = 0; rule < 6; rule++) {
            is("alone, least by rule " + rule, row(rule, 50).moves(0, 0, false), 0);
            is("alone, greatest by rule " + rule, row(rule, 50).moves(0, 0, true), 99);
            is("the last of eight, least by rule " + rule, row(rule, alike(50, 8)).moves(7, 0, false), least[rule]);
            is("the last of eight, greatest by rule " + rule, row(rule, alike(50, 8)).moves(7, 0, true), most[rule]);
        }
        is("a heavy one, least", weighed(50, 9, 50, 1).moves(0, 0, false), 5);
        is("a heavy one, greatest", weighed(50, 9, 50, 1).moves(0, 0, true), 94);
        is("a light one, least", weighed(50, 9, 50, 1).moves(1, 0, false), 45);
        is("a light one, greatest", weighed(50, 9, 50, 1).moves(1, 0, true), 54);
        is("between the ends too, least", row(4, 3, 8, 9).moves(1, 0, false), 0);
        is("between the ends too, greatest", row(4, 3, 8, 9).moves(1, 0, true), 9);
        is("greatest by 1 alone", row(4, 0, 1, 50).moves(2, 0, true), 1);
        is("greatest by 99 alone", row(4, 0, 99, 50).moves(2, 0, true), 99);
        is("least by 0 alone", row(4, 0, 99, 99, 50).moves(3, 0, false), 0);
        is("least by 98 alone", row(4, 98, 99, 99, 50).moves(3, 0, false), 98);
        sentence("Terms", "SHAM of a PERSON in a KIND: a NUMBER that, told in place of its own, brings the MIDDLE nearer to its own one than it is");
        is("it is there", row(0, 10, 11).sham(0, 0), -1);
        is("it is 1 from it", row(0, 10, 11).sham(1, 0), 12);
        is("as far on the other side is no nearer", row(4, 0, 10, 5).sham(2, 0), -1);
        is("one alone has no cause", row(0, 50).sham(0, 0), -1);
        is("nor to tell a stubborn lie", hall("person 10 0 0 0 weight 1;person 20 0 0 0 weight 1;stubborn 0").sham(0, 0), 0);
        sentence("Terms", "that by which it is nearest (of several the least); none");
        is("0 is as far as it goes", row(0, 0, 99).sham(0, 0), -1);
        is("99 is as far as it goes", row(0, 0, 99).sham(1, 0), -1);
        is("down to 0", row(0, 1, 99).sham(0, 0), 0);
        is("up to 98, by which it is as by 99", row(0, 0, 97).sham(1, 0), 98);
        is("not to the end", row(0, 40, 50).sham(0, 0), 30);
        is("of two the lesser", row(0, 50, 40).sham(0, 0), 60);
        is("by 99 alone", row(4, 98, 0, 99).sham(0, 0), 99);
        is("by 0 alone", row(4, 1, 50, 50, 0).sham(0, 0), 0);
        is("by the half", row(3, 40, 50, 60).sham(0, 0), 20);
        is("by the heavy", weighed(60, 9, 50, 1).sham(0, 0), 62);
        sentence("Terms", "HONEST: RULES by which nobody could SHAM in a KIND now, as bits");
        is("all alike", row(0, alike(99, 8)).honest(0), 63);
        is("nobody at all", new MeanMan().honest(0), 63);
        is("one alone", row(0, 7).honest(0), 63);
        is("0 and 99", row(0, 0, 99).honest(0), 63);
        is("1 and 99", row(0, 1, 99).honest(0), 22);
        sentence("Terms", "GAINERS: PEOPLE who could SHAM in a KIND, as bits");
        is("nobody at all", new MeanMan().gainers(0), 0);
        is("none of eight", row(0, alike(99, 8)).gainers(0), 0);
        is("the first of two", row(0, 1, 99).gainers(0), 1);
        is("the last of eight", row(0, 0, 0, 0, 0, 0, 0, 0, 95).gainers(0), 128);
        is("not if it can't come nearer", row(0, 0, 0, 0, 0, 0, 0, 0, 96).gainers(0), 0);
    }

    private static void halvesAndBefore() {
        sentence("Terms", "HALVES of a KIND: whether the sum is no whole multiple of how many PEOPLE there are (not so without PEOPLE)");
        is("nobody", new MeanMan().halves(0), false);
        is("one", row(0, 99).halves(0), false);
        is("sum 0", row(0, alike(0, 8)).halves(0), false);
        is("sum 7 of 8", row(0, 0, 0, 0, 0, 0, 0, 0, 7).halves(0), true);
        is("sum 8 of 8", row(0, 0, 0, 0, 0, 0, 0, 0, 8).halves(0), false);
        is("sum 9 of 8", row(0, 0, 0, 0, 0, 0, 0, 0, 9).halves(0), true);
        sentence("Terms", "NEAR: how many NUMBERS are at the MIDDLE by RULE 0, how many at that and 1");
        is("all eight", row(0, alike(99, 8)).near(0, false), 8);
        is("none at 100", row(0, alike(99, 8)).near(0, true), 0);
        is("one", row(0, 99).near(0, false), 1);
        is("one, and none at one more", row(0, 98).near(0, true), 0);
        is("at 0", row(0, 0, 1).near(0, false), 1);
        is("at 1", row(0, 0, 1).near(0, true), 1);
        is("not at it", row(0, 0, 2, 4, 6).near(0, false), 0);
        is("at 4 of middle 3", row(0, 0, 2, 4, 6).near(0, true), 1);
        is("by rule 0 whatever the rule is", row(2, 0, 0, 9).near(0, false), 0);
        sentence("Terms", "BEFORE: the MIDDLE by RULE 0 of a KIND was V ahead of it that one PERSON told a NUMBER anew");
        is("by rule 0 whatever the rule is", row(1, 50, 60, 70).before(0, 0, 60, false), 3);
        is("and the least", row(1, 50, 60, 70).before(0, 0, 60, true), 50);
        is("what it is now counts too", row(0, 50, 50).before(0, 0, 50, false), 2);
        sentence("Terms", "what that PERSON's NUMBER can have been (0 to 99): how many; the least; none");
        int[][] due = {{0, 0, 1, 0}, {0, 99, 1, 99}, {0, 50, 1, 50}};
        for (int[] d : due) {
            is("one alone, how many of " + d[1], row(0, 7).before(0, 0, d[1], false), d[2]);
            is("one alone, the least of " + d[1], row(0, 7).before(0, 0, d[1], true), d[3]);
        }
        is("beside 0, 49: 98 and 99", row(0, 7, 0).before(0, 0, 49, false), 2);
        is("beside 0, 49: the least", row(0, 7, 0).before(0, 0, 49, true), 98);
        is("beside 0, 50: none", row(0, 7, 0).before(0, 0, 50, false), 0);
        is("beside 0, 50: no least", row(0, 7, 0).before(0, 0, 50, true), -1);
        is("beside 99, 49: 0 alone", row(0, 7, 99).before(0, 0, 49, false), 1);
        is("beside 99, 49: 0", row(0, 7, 99).before(0, 0, 49, true), 0);
        is("beside 99, 48: none", row(0, 7, 99).before(0, 0, 48, false), 0);
        is("beside 99, 48: no least", row(0, 7, 99).before(0, 0, 48, true), -1);
    }

    private static void shoes() {
        sentence("Terms", "SIZES: a size fits all NUMBERS of a KIND that are E (0 to 20) at most from it");
        is("0 apart by 0", row(0, 5, 5).sizes(0, 0), 1);
        is("1 apart by 0", row(0, 5, 6).sizes(0, 0), 2);
        is("2 apart by 1", row(0, 5, 7).sizes(0, 1), 1);
        is("3 apart by 1", row(0, 5, 8).sizes(0, 1), 2);
        is("40 apart by 20", row(0, 0, 40).sizes(0, 20), 1);
        is("41 apart by 20", row(0, 0, 41).sizes(0, 20), 2);
        sentence("Terms", "the fewest sizes that fit all PEOPLE; the most PEOPLE that K sizes (1 to 4) fit together");
        is("nobody", new MeanMan().sizes(0, 20), 0);
        is("eight", row(0, 0, 10, 20, 30, 40, 50, 60, 70).sizes(0, 0), 8);
        is("eight by 4", row(0, 0, 10, 20, 30, 40, 50, 60, 70).sizes(0, 4), 8);
        is("eight by 5", row(0, 0, 10, 20, 30, 40, 50, 60, 70).sizes(0, 5), 4);
        is("the ends by 20", row(0, 0, 40, 41, 81, 82, 99).sizes(0, 20), 3);
        for (int k = 1; k <= 4; k++) {
            is(k + " of nobody", new MeanMan().fits(0, 20, k), 0);
            is(k + " of one", row(0, 99).fits(0, 0, k), 1);
            is(k + " of two", row(0, 0, 99).fits(0, 20, k), Math.min(k, 2));
            is(k + " of eight by 0", row(0, 0, 10, 20, 30, 40, 50, 60, 70).fits(0, 0, k), k);
            is(k + " of eight by 4", row(0, 0, 10, 20, 30, 40, 50, 60, 70).fits(0, 4, k), k);
            is(k + " of eight by 5", row(0, 0, 10, 20, 30, 40, 50, 60, 70).fits(0, 5, k), 2 * k);
            is(k + " of eight alike", row(0, alike(99, 8)).fits(0, 0, k), 8);
        }
        is("the most, though behind", row(0, 0, 50, 50).fits(0, 0, 1), 2);
        is("the most, though ahead", row(0, 50, 99, 50).fits(0, 0, 1), 2);
        is("not the first of them", row(0, 0, 30, 31, 60, 61, 90, 91, 92).fits(0, 1, 3), 7);
        is("all but one of eight", row(0, 0, 20, 41, 82, 83, 84, 85, 86).fits(0, 20, 2), 7);
        MeanMan fewer = row(0, 1, 1, 1, 1, 1, 1, 30, 60);
        is("of eight", fewer.fits(0, 0, 4), 8);
        for (int still = 7; still >= 0; still--) {
            fewer.leave(0);
            is("of " + still + " that are left", fewer.fits(0, 0, 4), still);
            is("of " + still + " by one size", fewer.fits(0, 0, 1), Math.max(still - 2, Math.min(still, 1)));
        }
        sentence("Terms", "SHOE: the least size (0 to 99) that fits the most");
        is("3 by 5: none below 0", row(0, 3).shoe(0, 5), 0);
        is("20 by 20", row(0, 20).shoe(0, 20), 0);
        is("21 by 20", row(0, 21).shoe(0, 20), 1);
        is("99 by 0", row(0, 99).shoe(0, 0), 99);
        is("99 by 20", row(0, 99).shoe(0, 20), 79);
        is("40 apart by 20", row(0, 59, 99).shoe(0, 20), 79);
        is("41 apart by 20: the first of two", row(0, 58, 99).shoe(0, 20), 38);
        is("the most, though behind", row(0, 0, 50, 50).shoe(0, 0), 50);
        is("nobody", new MeanMan().shoe(0, 20), 0);
    }

    private static void pulls() {
        sentence("Terms", "PULL of two in a KIND: each tells its own NUMBER (0), or 0 (1), or 99 (2), unseen by one another");
        is("0 and 99: all that come to the same", row(0, 0, 99).pull(0, 1, 0), 45);
        is("99 and 0", row(0, 99, 0).pull(0, 1, 0), 195);
        is("both at 0", row(0, 0, 0).pull(0, 1, 0), 27);
        is("both at 99", row(0, 99, 99).pull(0, 1, 0), 325);
        is("two by the lesser: own and own, own and 99, 0 and 0", row(1, 10, 50).pull(0, 1, 0), 21);
        is("and the other way round", row(1, 10, 50).pull(1, 0, 0), 81);
        sentence("Terms", "each would have the MIDDLE as near as can be to its own: RESTS, as bits (3 times what the one tells and what the other one tells)");
        is("the one down, the other one up", row(0, 10, 20, 60, 60).pull(0, 2, 0), 1 << 5);
        is("the one up, the other one down", row(0, 10, 20, 60, 60).pull(2, 0, 0), 1 << 7);
        sentence("Terms", "those from which neither could bring it nearer by another one of its three alone");
        is("none can move it: all", row(1, 50, 50, 50, 1, 99).pull(3, 4, 0), 511);
        is("own and own", row(1, 50, 60, 70).pull(0, 2, 0) & 1, 1);
        is("the last two of eight", row(1, alike(50, 8)).pull(6, 7, 0), 511);
    }

    private static void samples() {
        sentence("Terms", "SAMPLES of S PEOPLE (1 to 8) in a KIND: sets of S of all");
        int[] sets = {8, 28, 56, 70, 56, 28, 8, 1};
        for (int s = 1; s <= 8; s++) {
            is("of eight, " + s, row(0, alike(50, 8)).samples(0, s, 0, true), sets[s - 1]);
            is("of eight, alike, " + s, row(0, alike(50, 8)).samples(0, s, 0, false), sets[s - 1]);
        }
        sentence("Terms", "in how many the MIDDLE of theirs is E (0 to 99) at most from that of all (both by the RULE; RULE 5 by their WEIGHTS)");
        is("49 and 50 from it, by 48", row(0, 0, 99).samples(0, 1, 48, false), 0);
        is("49 and 50 from it, by 49", row(0, 0, 99).samples(0, 1, 49, false), 1);
        is("49 and 50 from it, by 50", row(0, 0, 99).samples(0, 1, 50, false), 2);
        is("99 from it, by 98", row(1, 0, 99).samples(0, 1, 98, false), 1);
        is("99 from it, by 99", row(1, 0, 99).samples(0, 1, 99, false), 2);
        is("all of them by 0", row(0, 0, 99, 3).samples(0, 3, 0, false), 1);
        is("by weights, 10 from it", weighed(0, 1, 99, 9).samples(0, 1, 10, false), 1);
        is("by weights, 9 from it", weighed(0, 1, 99, 9).samples(0, 1, 9, false), 0);
        sentence("Terms", "of how many; none there are, if S is more than PEOPLE");
        is("as many", row(0, 1, 2).samples(0, 2, 99, true), 1);
        is("more", row(0, 1, 2).samples(0, 3, 99, true), 0);
        is("in more", row(0, 1, 2).samples(0, 3, 99, false), 0);
        is("eight of seven", row(0, alike(1, 7)).samples(0, 8, 99, true), 0);
        is("one of nobody", new MeanMan().samples(0, 1, 99, true), 0);
        is("in one of nobody", new MeanMan().samples(0, 1, 99, false), 0);
    }

    private static void nearAndFar() {
        sentence("Terms", "NEAREST to THE MAN: the PERSON whose NUMBERS of all KINDS are the least apart from his together (of several the least; none)");
        is("nobody", new MeanMan().nearest(), -1);
        is("one", row(0, 99).nearest(), 0);
        is("all alike", row(0, alike(99, 8)).nearest(), 0);
        is("the last of eight", row(0, 9, 9, 9, 9, 9, 9, 9, 8).nearest(), 7);
        is("of both sides the least", hall("person 4 0 0 0 weight 1;person 6 0 0 0 weight 1;man 5 0 0 0").nearest(), 0);
        is("all kinds together", hall("person 3 0 0 0 weight 1;person 1 1 0 0 weight 1").nearest(), 1);
        sentence("Terms", "HATES: PEOPLE who are more than N (0 to 400) apart from him so, as bits");
        MeanMan far = hall("person 99 99 99 99 weight 1;person 0 0 0 0 weight 1;person 0 0 0 1 weight 1");
        is("by 0", far.hates(0), 5);
        is("by 1", far.hates(1), 1);
        is("by 395", far.hates(395), 1);
        is("by 396", far.hates(396), 0);
        is("by 397", far.hates(397), 0);
        is("by 400", far.hates(400), 0);
        MeanMan amid = hall("person 50 50 50 50 weight 1;person 49 50 50 51 weight 1;person 51 49 51 49 weight 1;man 50 50 50 50");
        is("on either side by 0", amid.hates(0), 6);
        is("on either side by 1", amid.hates(1), 6);
        is("on either side by 2", amid.hates(2), 4);
        is("on either side by 4", amid.hates(4), 0);
        is("nobody", new MeanMan().hates(0), 0);
        is("all eight", row(0, alike(1, 8)).hates(0), ALL);
        sentence("Terms", "TWINS: pairs of PEOPLE with the same four NUMBERS: how many");
        is("nobody", new MeanMan().twins(), 0);
        is("one", row(0, 1).twins(), 0);
        is("two", row(0, 1, 1).twins(), 1);
        is("eight", row(0, alike(1, 8)).twins(), 28);
        for (String other : new String[] {"9 2 3 4", "1 9 3 4", "1 2 9 4", "1 2 3 9"}) {
            is("another in one kind", hall("person 1 2 3 4 weight 1;person " + other + " weight 1").twins(), 0);
        }
        is("another weight", hall("person 1 2 3 4 weight 1;person 1 2 3 4 weight 9;stubborn 1").twins(), 1);
        sentence("Terms", "VILLAGE of N PEOPLE (1 to 8): the set of so many whose MIDDLES by RULES are the least apart from those of all together");
        for (int n = 1; n <= 8; n++) {
            is(n + " of eight alike", row(0, alike(9, 8)).village(n), (1 << n) - 1);
            is(n + " of " + n, row(0, alike(9, n)).village(n), (1 << n) - 1);
            is(n + " of one fewer", row(0, alike(9, n - 1)).village(n), -1);
        }
        is("the last of eight", row(0, 9, 9, 9, 9, 0, 0, 0, 4).village(1), 128);
        sentence("Terms", "of several the least as bits; none. MAJORITY in a KIND for a NUMBER V");
        is("of two the first", row(0, 9, 5, 9, 5).village(2), 3);
        is("of nobody", new MeanMan().village(1), -1);
    }

    private static void votes() {
        sentence("Terms", "WEIGHTS of those above V less those of those below it");
        is("49", weighed(50, 9).majority(0, 49), 9);
        is("50", weighed(50, 9).majority(0, 50), 0);
        is("51", weighed(50, 9).majority(0, 51), -9);
        is("all above", weighed(99, 9, 99, 9, 99, 9, 99, 9, 99, 9, 99, 9, 99, 9, 99, 9).majority(0, 0), 72);
        is("all below", weighed(0, 9, 0, 9, 0, 9, 0, 9, 0, 9, 0, 9, 0, 9, 0, 9).majority(0, 99), -72);
        is("none above 99", weighed(99, 9, 98, 1).majority(0, 99), -1);
        is("none below 0", weighed(0, 9, 1, 1).majority(0, 0), 1);
        is("nobody", new MeanMan().majority(3, 50), 0);
        sentence("Terms", "RANK of a PERSON in a KIND: how many others have a greater NUMBER");
        MeanMan eight = row(0, 0, 10, 20, 30, 40, 50, 60, 99);
        for (int p = 0; p < 8; p++) {
            is("of eight, " + p, eight.rank(p, 0), 7 - p);
            is("alike in another kind, " + p, eight.rank(p, 1), 0);
        }
        is("alone", row(0, 0).rank(0, 0), 0);
        is("1 less", row(0, 49, 50).rank(0, 0), 1);
        is("as much", row(0, 50, 50).rank(0, 0), 0);
        is("1 more", row(0, 51, 50).rank(0, 0), 0);
        is("less than one ahead", row(0, 51, 50).rank(1, 0), 1);
        sentence("Terms", "RANGE of a KIND: the greatest NUMBER less the least (0 without PEOPLE)");
        is("nobody", new MeanMan().range(0), 0);
        is("one", row(0, 99).range(0), 0);
        is("0 to 99", row(0, 50, 99, 0).range(0), 99);
        is("alike", row(0, alike(99, 8)).range(0), 0);
    }

    private static void trials() {
        String text = "person 10 0 0 0 weight 1;person 30 0 0 0 weight 1;person 80 50 50 50 weight 9;strike 70;rule 1 5;rule 2 3;man 1 2 3 4";
        sentence("Terms", "TRIAL of N DAYS (0 to 60) from now (draws, too; nothing stays): THE MAN's NUMBER of a KIND then");
        for (int n : new int[] {0, 1, 2, 59, 60}) {
            for (int seed : new int[] {LEAST_INT, -1, 0, 1, 7, MOST_INT}) {
                MeanMan x = law(hall(text), "toward 1");
                x.seed(seed);
                MeanMan y = law(hall(text), "toward 1");
                y.seed(seed);
                if (n > 0) {
                    y.days(n);
                }
                for (int kind = 0; kind < 4; kind++) {
                    is("by " + n + " from " + seed + ", kind " + kind, x.trial(kind, n), y.man(kind));
                }
                is("the seed stays", x.seed(0), seed);
                is("the day stays", x.count(3), 0);
            }
        }
        sentence("Terms", "SPAN: the least and the greatest of these from SEED 1, 2, .. 6");
        for (int n : new int[] {0, 1, 2, 59, 60}) {
            for (int kind = 0; kind < 4; kind++) {
                int least = 99;
                int most = 0;
                for (int seed = 1; seed <= 6; seed++) {
                    MeanMan y = law(hall(text), "toward 1");
                    y.seed(seed);
                    int then = y.trial(kind, n);
                    least = Math.min(least, then);
                    most = Math.max(most, then);
                }
                MeanMan x = law(hall(text), "toward 1");
                x.seed(MOST_INT);
                is("least by " + n + ", kind " + kind, x.span(kind, n, false), least);
                is("greatest by " + n + ", kind " + kind, x.span(kind, n, true), most);
                is("the seed stays", x.seed(0), MOST_INT);
            }
        }
        is("nobody", hall("man 1 2 3 4;strike 100").span(3, 60, true), 4);
    }

    static void run() {
        fewest();
        movesAndShams();
        halvesAndBefore();
        shoes();
        pulls();
        samples();
        nearAndFar();
        votes();
        trials();
    }
}
