/** For each promise of the document what it says, at its edges and with wrong inputs. */
public final class PromisesTest extends Asker {
    private static final String FOUR =
        "person 10 20 30 40 weight 1;person 20 20 50 0 weight 2;person 60 20 70 99 weight 1;person 60 0 10 0 weight 5";

    private static void due(int promise, String what, long got, long want) {
        due("promise " + promise + ": " + what, got, want);
    }

    private static void due(int promise, String what, boolean got, boolean want) {
        due(promise, what, got ? 1 : 0, want ? 1 : 0);
    }

    private static void dueThrow(int promise, String what, String want, Call call) {
        dueThrow("promise " + promise + ": " + what, want, call);
    }

    private static void wrongHall(String text, int at) {
        MeanMan x = hall("person 1 2 3 4 weight 5");
        feed(x, text);
        dueThrow(4, "hall of '" + text + "'", ARGUMENT, () -> x.hall());
        due(6, "fault of '" + text + "'", x.fault(), at);
        due(4, "people after '" + text + "'", x.count(0), 1);
        due(4, "texts after '" + text + "'", x.count(1), 1);
    }

    private static void wrongLaw(String text, int at) {
        MeanMan x = law(new MeanMan(), "up 1; up 1");
        feed(x, text);
        dueThrow(5, "law of '" + text + "'", ARGUMENT, () -> x.law());
        due(6, "fault of '" + text + "'", x.fault(), at);
        due(5, "lines after '" + text + "'", x.count(2), 2);
    }

    private static void newObject() {
        MeanMan x = new MeanMan();
        int[] counts = {0, 0, -1, 0, 0, 0, 0, 0, 0, 0, 0, 0, 0};
        for (int what = 0; what < counts.length; what++) {
            due(1, "count " + what, x.count(what), counts[what]);
        }
        due(1, "NONE", MeanMan.NONE, -1);
        due(1, "fault", x.fault(), -1);
        due(1, "seed", x.seed(5), 1);
        for (int kind = 0; kind < 4; kind++) {
            due(1, "man", x.man(kind), 0);
        }
    }

    private static void tape() {
        MeanMan x = new MeanMan();
        due(3, "end of more than there is", x.end(1), false);
        due(3, "end below 0", x.end(-1), false);
        due(3, "end of none", x.end(0), true);
        for (int i = 1; i <= 20; i++) {
            due(2, "feed", x.feed(0x20202020, 0x20202020, 0x20202020, 0x20202020, 0x20202020), 20 * i);
        }
        due(2, "feed of a full tape", x.feed(0, 0, 0, 0, 0), -1);
        due(3, "end of all", x.end(400), true);
        due(3, "end of one more", x.end(401), false);
        due(3, "end of 381", x.end(381), true);
        due(2, "feed beyond 400", x.feed(0, 0, 0, 0, 0), -1);
        due(3, "end of 380", x.end(380), true);
        due(2, "feed up to 400", x.feed(0x20202020, 0x20202020, 0x20202020, 0x20202020, 0x20202020), 400);
        due(4, "hall of blanks", x.hall(), 1);
        due(2, "feed of a tape used up", x.feed(0x6d616e20, 0x3120325f, 0, 0, 0), 20);
        x.end(7);
        dueThrow(4, "man of two numbers", ARGUMENT, () -> x.hall());
        due(4, "a wrong text is used up", x.end(1), false);
        due(6, "the highest byte comes first", x.fault(), 7);
        feed(x, "_");
        dueThrow(5, "law of a sign", ARGUMENT, () -> x.law());
        due(5, "a wrong law is used up", x.end(1), false);
    }

    private static void hallTexts() {
        MeanMan x = hall("  person 1 22 099 4 weight 5 ; person5 6 7 8weight9;stubborn1;rule 3 5;strike 100;"
            + "man 9 8 7 6;number 1 2 77  ");
        due(4, "people", x.count(0), 2);
        due(4, "texts", x.count(1), 1);
        due(4, "number with a 0 ahead", x.number(0, 2), 99);
        due(4, "number told behind", x.number(1, 2), 77);
        due(4, "weight", x.person(1, 0), 9);
        due(4, "stubborn", x.count(9), 2);
        due(4, "rule", x.count(8), 5);
        due(4, "strike", x.count(4), 100);
        due(4, "man", x.man(0) * 1000 + x.man(1) * 100 + x.man(2) * 10 + x.man(3), 9876);
        hall(x, "person 0 0 0 0 weight 1;stubborn 2");
        due(4, "a text behind another", x.count(0), 3);
        due(4, "stubborn of a later text", x.count(9), 6);
        x.leave(0);
        due(4, "who is stubborn after one left", x.count(9), 3);
        hall(x, "person 1 1 1 1 weight 1");
        due(4, "a newcomer is not stubborn", x.count(9), 3);
    }

    private static void hallLimits() {
        MeanMan x = new MeanMan();
        for (int i = 1; i <= 12; i++) {
            feed(x, "");
            due(4, "texts", x.hall(), i);
        }
        feed(x, "stub");
        dueThrow(4, "a wrong 13th text", ARGUMENT, () -> x.hall());
        due(6, "fault of it", x.fault(), 0);
        feed(x, "strike 7");
        dueThrow(4, "a 13th text", UNSUPPORTED, () -> x.hall());
        due(6, "fault of a right 13th text", x.fault(), -1);
        due(4, "nothing of it stays", x.count(4), 0);
        due(4, "it is used up", x.end(1), false);
        due(4, "texts", x.count(1), 12);
        MeanMan y = hall("strike 1;".repeat(13) + "strike 2");
        due(4, "14 lines", y.count(4), 2);
        String eight = FOUR + ";" + FOUR;
        MeanMan z = hall(eight);
        due(4, "8 people", z.count(0), 8);
        feed(z, " person 1");
        dueThrow(4, "a 9th of another text", ARGUMENT, () -> z.hall());
        due(6, "fault of a 9th", z.fault(), 1);
        z.leave(3);
        hall(z, "person 1 1 1 1 weight 1");
        due(4, "a 9th after one left", z.count(0), 8);
    }

    private static void wrongHalls() {
        wrongHall("person", 6);
        wrongHall("person  ", 8);
        wrongHall("persons 1", 0);
        wrongHall("Person 1", 0);
        wrongHall("1", 0);
        wrongHall(";", 0);
        wrongHall(" ;strike 1", 1);
        wrongHall("strike 1;", 9);
        wrongHall("strike 1; ", 10);
        wrongHall("strike 1;;strike 1", 9);
        wrongHall("strike 1 2", 9);
        wrongHall("strike 1 strike 2", 9);
        wrongHall("strike 0001", 7);
        wrongHall("strike 101", 7);
        wrongHall("strike -1", 7);
        wrongHall("strike\t1", 6);
        wrongHall("strike" + (char) 160 + "1", 6);
        wrongHall("person 1 2 3 100 weight 1", 13);
        wrongHall("person 1 2 3 weight 1", 13);
        wrongHall("person 1 2 3 4 5 weight 1", 15);
        wrongHall("person 1 2 3 4 weigh 1", 15);
        wrongHall("person 1 2 3 4 weight 0", 22);
        wrongHall("person 1 2 3 4 weight 10", 22);
        wrongHall("person 1 2 3 4 weight", 21);
        wrongHall("stubborn 1", 9);
        wrongHall("stubborn 1;person 1 1 1 1 weight 1", 9);
        wrongHall("rule 4 0", 5);
        wrongHall("rule 0 6", 7);
        wrongHall("man 1 2 3 100", 10);
        wrongHall("man 1 2 3", 9);
        wrongHall("number 1 0 0", 7);
        wrongHall("number 0 4 0", 9);
        wrongHall("number 0 0 100", 11);
        wrongHall("number 0 0", 10);
        wrongHall("number 0", 8);
        wrongHall("number", 6);
        wrongHall("number;strike 1", 6);
        wrongHall("stubborn", 8);
        wrongHall("stubborn;strike 1", 8);
        wrongHall("rule", 4);
        wrongHall("rule 0", 6);
        wrongHall("rule 0;strike 1", 6);
        wrongHall("strike", 6);
        wrongHall("strike;strike 1", 6);
        wrongHall("man", 3);
        wrongHall("man;strike 1", 3);
        wrongHall("manz 1 2 3 4", 0);
        wrongHall("strike 1;".repeat(14) + "strike 1", 126);
        wrongHall("strike 1;".repeat(14), 126);
        wrongHall("strike 1;".repeat(14) + " ;", 127);
    }

    private static void laws() {
        MeanMan x = new MeanMan();
        feed(x, "up 0;down 20 if above; toward 5 if not(mine+1<his or day>3)and below");
        due(5, "lines", x.law(), 3);
        due(50, "count of lines", x.count(2), 3);
        feed(x, "   ");
        due(5, "a law of blanks", x.law(), 0);
        due(50, "count of no lines", x.count(2), 0);
        feed(x, "up 1;".repeat(11) + "up 1");
        due(5, "12 lines", x.law(), 12);
        feed(x, "up 1 if ((((((above))))))");
        due(5, "six deep", x.law(), 1);
        feed(x, "up 1 if not(not(not(above)))and not not not not not(below)");
        due(5, "six deep twice", x.law(), 1);
        feed(x, "up 1 if " + "1+".repeat(194) + "1>1");
        due(5, "the longest sum", x.law(), 1);
        due(6, "fault of a right law", x.fault(), -1);
        wrongLaw("up", 2);
        wrongLaw("up 21", 3);
        wrongLaw("up 0020", 3);
        wrongLaw("down 5 if", 9);
        wrongLaw("down 5 if his", 13);
        wrongLaw("down 5 if 1000<1", 10);
        wrongLaw("down 5 if above below", 16);
        wrongLaw("down 5 if above)", 15);
        wrongLaw("down 5 if (above", 16);
        wrongLaw("down 5 if (above;up 1", 16);
        wrongLaw("down 5 if 1<2<3", 13);
        wrongLaw("down 5 if 1<above", 12);
        wrongLaw("down 5 if above+1<2", 15);
        wrongLaw("down 5 if 1+<2", 12);
        wrongLaw("down 5 if (1)<2", 12);
        wrongLaw("down 5 if above and", 19);
        wrongLaw("down 5 if or above", 10);
        wrongLaw("down 5 if not", 13);
        wrongLaw("down 5 above", 7);
        wrongLaw("down 5 if 1<", 12);
        wrongLaw("down 5 if 1<;up 1", 12);
        wrongLaw("down 5 if (1>)", 13);
        wrongLaw("down 5 if not;up 1", 13);
        wrongLaw("down 5 if ()", 11);
        wrongLaw("down;up 1", 4);
        wrongLaw("down 5 if;up 1", 9);
        wrongLaw("upz 1", 0);
        wrongLaw("down 5 if mine=his", 14);
        wrongLaw("sideways 5", 0);
        wrongLaw("up 1;".repeat(12) + "up 1", 60);
        wrongLaw("up 1 if (((((((above)))))))", 14);
        wrongLaw("up 1 if not(not(not(not above)))", 20);
    }

    private static void faults() {
        MeanMan x = new MeanMan();
        due(6, "ahead of any", x.fault(), -1);
        feed(x, "up ?");
        dueThrow(5, "law", ARGUMENT, () -> x.law());
        due(6, "of a law", x.fault(), 3);
        due(6, "again", x.fault(), 3);
        feed(x, "strike ?");
        dueThrow(4, "hall", ARGUMENT, () -> x.hall());
        due(6, "of a hall", x.fault(), 7);
        x.image();
        x.back();
        x.undo();
        due(6, "it outlasts going back", x.fault(), 7);
        law(x, "up 1");
        due(6, "of a right text", x.fault(), -1);
    }

    private static void numbers() {
        MeanMan x = hall(FOUR + ";man 1 2 3 4;stubborn 2");
        due(7, "number", x.number(3, 0), 60);
        dueThrow(7, "no person 4", INDEX, () -> x.number(4, 0));
        dueThrow(7, "no person -1", INDEX, () -> x.number(-1, 0));
        dueThrow(7, "no kind 4", INDEX, () -> x.number(0, 4));
        dueThrow(7, "no kind -1", INDEX, () -> x.number(0, -1));
        due(8, "weight", x.person(3, 0), 5);
        due(8, "stubborn", x.person(2, 1), 1);
        due(8, "not stubborn", x.person(1, 1), 0);
        due(8, "apart", x.person(0, 2), 9 + 18 + 27 + 36);
        dueThrow(8, "no person, another what", INDEX, () -> x.person(4, 3));
        dueThrow(8, "another what", ELEMENT, () -> x.person(0, 3));
        dueThrow(8, "a what below 0", ELEMENT, () -> x.person(0, -1));
        due(9, "man", x.man(2), 3);
        dueThrow(9, "no kind 4", INDEX, () -> x.man(4));
        dueThrow(9, "no kind -1", INDEX, () -> x.man(-1));
    }

    private static void middles() {
        MeanMan x = hall(FOUR);
        int[][] due = {{37, 20, 60, 35, 60, 45}, {15, 20, 20, 10, 20, 8}, {40, 30, 50, 40, 10, 27}, {34, 0, 40, 49, 0, 15}};
        for (int kind = 0; kind < 4; kind++) {
            for (int rule = 0; rule < 6; rule++) {
                due(10, "middle " + kind + " " + rule, x.middle(kind, rule), due[kind][rule]);
            }
        }
        MeanMan odd = row(0, 9, 1, 5);
        due(10, "one in the middle", odd.middle(0, 1), 5);
        due(10, "one in the middle again", odd.middle(0, 2), 5);
        due(10, "each there once: the least", odd.middle(0, 4), 1);
        MeanMan pairs = row(0, 9, 9, 7, 7, 1);
        due(10, "two there twice: the lesser", pairs.middle(0, 4), 7);
        dueThrow(10, "no kind", INDEX, () -> new MeanMan().middle(4, 0));
        dueThrow(10, "no rule", INDEX, () -> new MeanMan().middle(0, 6));
        dueThrow(10, "no rule below 0", INDEX, () -> x.middle(0, -1));
        dueThrow(10, "no people", STATE, () -> new MeanMan().middle(3, 5));
    }

    private static long goes(String text) {
        MeanMan x = hall("person 50 1 1 1 weight 1;person 10 90 40 50 weight 1;man 40 40 40 40");
        law(x, text);
        return x.goes(1, 0) * 1_000_000L + x.goes(1, 1) * 10_000L + x.goes(1, 2) * 100L + x.goes(1, 3);
    }

    private static void going() {
        due(11, "no law", hall(FOUR).goes(0, 0), 10);
        due(11, "no line", goes(""), 10_90_40_50);
        due(11, "up", goes("up 20"), 30_99_60_70);
        due(11, "down", goes("down 20"), 70_20_30);
        due(11, "toward, to his at most", goes("toward 20"), 30_70_40_40);
        due(11, "toward adds up", goes("toward 20;toward 20"), 40_50_40_40);
        due(11, "toward first, then up", goes("up 5;toward 20"), 35_75_45_45);
        due(11, "up and down together before the bounds", goes("up 20;down 15"), 15_95_45_55);
        due(11, "above", goes("up 1 if above"), 10_91_40_51);
        due(11, "below", goes("up 1 if below"), 11_90_40_50);
        due(11, "not", goes("up 1 if not above"), 11_90_41_50);
        due(11, "and binds more than or", goes("up 1 if below or above and kind>2"), 11_90_40_51);
        due(11, "brackets", goes("up 1 if (below or above) and kind>2"), 10_90_40_51);
        due(11, "not binds most", goes("up 1 if not below and above"), 10_91_40_51);
        due(11, "apart", goes("up 1 if apart<11"), 10_90_41_51);
        due(11, "mine and his", goes("up 1 if mine+30>his+10"), 10_91_41_51);
        due(11, "who", goes("up 1 if who>0;up 2 if who<1"), 11_91_41_51);
        due(11, "kind", goes("up 1 if kind<2"), 11_91_40_50);
        due(11, "day", goes("up 1 if day<1;up 2 if day>0"), 11_91_41_51);
        due(11, "equal is neither", goes("up 1 if mine<40 or mine>40"), 11_91_40_51);
        due(11, "lines are asked by what mine was", goes("up 9;up 1 if mine>10"), 19_99_50_60);
        MeanMan x = law(hall("person 5 5 5 5 weight 1;stubborn 0"), "up 1");
        due(11, "stubborn", x.goes(0, 0), 5);
        dueThrow(11, "no person", INDEX, () -> x.goes(1, 0));
        dueThrow(11, "no kind", INDEX, () -> x.goes(0, 4));
    }

    private static void acts() {
        MeanMan x = hall(FOUR);
        due(12, "what it was", x.tell(1, 2, 99), 50);
        due(12, "what it is", x.number(1, 2), 99);
        dueThrow(12, "no person and no number", INDEX, () -> x.tell(4, 0, 100));
        dueThrow(12, "no kind and no number", INDEX, () -> x.tell(0, 4, 100));
        dueThrow(12, "100", ARGUMENT, () -> x.tell(0, 0, 100));
        dueThrow(12, "-1", ARGUMENT, () -> x.tell(0, 0, -1));
        due(13, "what it was", x.rule(3, 5), 0);
        due(13, "what it was then", x.rule(3, 0), 5);
        due(13, "what it is", x.count(8), 0);
        dueThrow(13, "no kind", INDEX, () -> x.rule(4, 0));
        dueThrow(13, "no rule", INDEX, () -> x.rule(0, 6));
        dueThrow(13, "no rule below 0", INDEX, () -> x.rule(0, -1));
        due(14, "it changed", x.stubborn(3, true), true);
        due(14, "it did not", x.stubborn(3, true), false);
        due(14, "not stubborn", x.stubborn(0, false), false);
        due(14, "bits", x.count(9), 8);
        dueThrow(14, "no person", INDEX, () -> x.stubborn(4, true));
        due(15, "how many there are", x.leave(1), 3);
        due(15, "those behind have a number less", x.number(1, 0), 60);
        due(15, "their weights too", x.person(2, 0), 5);
        due(15, "and whether they are stubborn", x.count(9), 4);
        dueThrow(15, "no person", INDEX, () -> x.leave(3));
        dueThrow(15, "no person below 0", INDEX, () -> x.leave(-1));
        x.leave(0);
        x.leave(0);
        due(15, "nobody is left", x.leave(0), 0);
        due(50, "acts that can be undone", x.count(12), 10);
    }

    private static void passingDays() {
        MeanMan x = law(hall("person 10 10 10 10 weight 1;person 20 10 10 10 weight 1;person 60 10 10 10 weight 1;stubborn 1"),
            "toward 3");
        due(16, "a day", x.days(1), 2);
        due(16, "man", x.man(0), 30);
        due(16, "nearer from below", x.number(0, 0), 13);
        due(16, "stubborn", x.number(1, 0), 20);
        due(16, "nearer from above", x.number(2, 0), 57);
        due(16, "day", x.count(3), 1);
        due(16, "days", x.days(2), 4);
        due(16, "all days count", x.log(0, 5) + x.log(1, 5) + x.log(2, 5), 6);
        dueThrow(16, "0", ARGUMENT, () -> x.days(0));
        dueThrow(16, "61", ARGUMENT, () -> x.days(61));
        MeanMan empty = hall("man 1 2 3 4;strike 100");
        due(16, "nobody", empty.days(60), 0);
        due(16, "the man is as he was", empty.man(3), 4);
        due(16, "rows", empty.count(11), 60);
        MeanMan long1 = new MeanMan();
        for (int i = 0; i < 166; i++) {
            long1.days(60);
        }
        due(16, "day 9960", long1.count(3), 9960);
        long1.days(39);
        due(16, "day 9999", long1.count(3), 9999);
        long1.days(2);
        due(16, "no day behind 9999", long1.count(3), 9999);
        due(45, "no row behind it either", long1.log(0, 0), 9999);
        due(45, "nor ahead of that", long1.log(2, 0), 9998);
    }

    private static int drawn(int[] seed) {
        seed[0] = 1103515245 * seed[0] + 12345;
        return (seed[0] >>> 16) % 32768;
    }

    private static void strikes() {
        MeanMan x = hall("person 5 5 5 5 weight 1;person 5 5 5 5 weight 1;person 5 5 5 5 weight 1;strike 100;"
            + "stubborn 0;stubborn 1;stubborn 2");
        int[] seed = {1};
        due(16, "the first draw, mod 100 below 100", drawn(seed) % 100 < 100, true);
        int person = drawn(seed) % 3;
        int kind = drawn(seed) % 4;
        int number = drawn(seed) % 100;
        due(16, "a strike is no going", x.days(1), 0);
        due(16, "the stubborn are struck too", x.number(person, kind), number);
        due(46, "four draws", x.seed(1), seed[0]);
        MeanMan calm = hall("person 5 5 5 5 weight 1");
        int[] once = {1};
        drawn(once);
        calm.days(1);
        due(46, "one draw without a strike", calm.seed(0), once[0]);
        MeanMan empty = hall("strike 100");
        empty.days(1);
        due(46, "one draw without people", empty.seed(0), once[0]);
        // From seed 1 the first draw is 16838.
        MeanMan below = hall("person 5 5 5 5 weight 1;strike 38");
        below.days(1);
        due(16, "38 is not below 38", below.seed(0), once[0]);
        MeanMan over = hall("person 5 5 5 5 weight 1;strike 39");
        over.days(1);
        due(16, "38 is below 39", over.seed(0) != once[0], true);
    }

    private static void aheadAndRound() {
        MeanMan x = law(hall("person 10 0 0 0 weight 1;person 30 0 0 0 weight 1;strike 100"), "toward 3;up 1 if day>2");
        due(17, "none", x.ahead(0, 0, 0), 10);
        due(17, "one", x.ahead(0, 0, 1), 13);
        due(17, "man of none", x.ahead(-1, 0, 0), 0);
        due(17, "man of one", x.ahead(-1, 0, 1), 20);
        due(17, "three", x.ahead(1, 0, 3), 21);
        due(17, "days of the law go on", x.ahead(1, 0, 4), 21);
        due(17, "nothing stays", x.count(3) + x.number(0, 0) + x.man(0) + x.count(11), 10);
        due(17, "no draw", x.seed(1), 1);
        dueThrow(17, "no person -2", INDEX, () -> x.ahead(-2, 0, 61));
        dueThrow(17, "no person 2", INDEX, () -> x.ahead(2, 0, 0));
        dueThrow(17, "no kind", INDEX, () -> x.ahead(-1, 4, 61));
        dueThrow(17, "61", ARGUMENT, () -> x.ahead(-1, 0, 61));
        dueThrow(17, "-1", ARGUMENT, () -> x.ahead(0, 0, -1));
        due(18, "nobody", new MeanMan().settles(), 0);
        due(19, "nobody", new MeanMan().round(), 1);
        MeanMan alone = hall("person 7 0 0 0 weight 1");
        due(18, "the man changes first", alone.settles(), 1);
        alone.days(1);
        due(18, "settled", alone.settles(), 0);
        MeanMan near = law(row(0, 10, 30), "toward 3");
        due(18, "toward one another", near.settles(), 4);
        MeanMan slow = law(row(0, 0, 0), "up 1 if day<60");
        due(18, "60 days", slow.settles(), -1);
        MeanMan slower = law(row(0, 0, 0), "up 1 if day<59");
        due(18, "59 days and the man's", slower.settles(), 60);
        due(19, "settled: by 1", slower.round(), -1);
        MeanMan two = law(row(0, 0, 99), "up 20 if who<1 and mine<50;down 20 if who<1 and mine>50");
        two.stubborn(1, true);
        due(18, "round and round", two.settles(), -1);
        due(19, "by 2", two.round(), 2);
        MeanMan saw = law(row(0, 0), "up 1 if mine<29;down 20 if mine>28;down 9 if mine>28");
        due(19, "by 30", saw.round(), 30);
        MeanMan longSaw = law(row(0, 0), "up 1 if mine<30;down 20 if mine>29;down 10 if mine>29");
        due(19, "by 31", longSaw.round(), -1);
        MeanMan hidden = law(row(1, 1, 5, 9), "up 1 if who+kind<1 and mine<2;down 1 if who+kind<1 and mine>1");
        due(19, "people are looked at, not the man alone", hidden.round(), 2);
        due(18, "people are looked at, not the man alone", hidden.settles(), -1);
        hall(hidden, "strike 100");
        due(19, "no draws", hidden.round(), 2);
        MeanMan struck = hall("person 7 0 0 0 weight 1;strike 100");
        due(18, "no draws", struck.settles(), 1);
        due(19, "no draws, by 1", struck.round(), 1);
    }

    private static void fewestAndRules() {
        due(20, "it is so", row(0, 10, 20, 61, 61).fewest(0, 38), 0);
        due(20, "by the sum", row(0, 10, 20, 60, 60).fewest(0, 40), 1);
        due(20, "the first cannot, the last can", row(0, 99, 0, 0, 0).fewest(0, 49), 2);
        due(20, "all", row(0, 10, 20, 60, 60).fewest(0, 99), 15);
        due(20, "lesser middle", row(1, 1, 2, 8, 9).fewest(0, 8), 1);
        due(20, "greater middle", row(2, 1, 2, 8, 9).fewest(0, 2), 4);
        due(20, "lesser middle between", row(1, 1, 2, 8, 9).fewest(0, 5), 1);
        due(20, "two must", row(1, 1, 2, 3, 8, 9).fewest(0, 10), 7);
        due(20, "half by the least", row(3, 20, 60, 60).fewest(0, 35), 1);
        due(20, "half by the greatest", row(3, 20, 60, 60).fewest(0, 50), 1);
        due(20, "half out of reach of one", row(3, 20, 60, 60).fewest(0, 10), 6);
        due(20, "commonest", row(4, 5, 5, 5, 9).fewest(0, 9), 3);
        due(20, "commonest, the least of three", row(4, 5, 5, 9).fewest(0, 4), 1);
        due(20, "commonest, a greater one", row(4, 5, 5, 9).fewest(0, 10), 3);
        due(20, "commonest, a lesser one", row(4, 5, 6, 7).fewest(0, 4), 1);
        MeanMan heavy = hall("rule 0 5;person 0 0 0 0 weight 1;person 0 0 0 0 weight 9");
        due(20, "by weight: the light one", heavy.fewest(0, 9), 1);
        due(20, "by weight: the heavy one", heavy.fewest(0, 10), 2);
        due(20, "by weight: the heavy one to 89", heavy.fewest(0, 89), 2);
        due(20, "by weight: both", heavy.fewest(0, 90), 3);
        dueThrow(20, "no kind", INDEX, () -> new MeanMan().fewest(4, 100));
        dueThrow(20, "100", ARGUMENT, () -> new MeanMan().fewest(0, 100));
        dueThrow(20, "-1", ARGUMENT, () -> heavy.fewest(0, -1));
        dueThrow(20, "nobody", STATE, () -> new MeanMan().fewest(0, 99));
        MeanMan x = hall(FOUR);
        due(21, "60", x.rules(0, 60), 20);
        due(21, "37", x.rules(0, 37), 1);
        due(21, "none", x.rules(0, 1), 0);
        due(21, "all", row(0, 7, 7).rules(0, 7), 63);
        due(21, "nobody", new MeanMan().rules(0, 0), 0);
        dueThrow(21, "no kind", INDEX, () -> x.rules(-1, 100));
        dueThrow(21, "100", ARGUMENT, () -> new MeanMan().rules(0, 100));
        dueThrow(21, "-1", ARGUMENT, () -> x.rules(0, -1));
    }

    private static void movesAndShams() {
        MeanMan x = row(0, 10, 20, 60, 60);
        due(22, "least", x.moves(0, 0, false), 35);
        due(22, "greatest", x.moves(0, 0, true), 59);
        due(22, "by a middle one, least", row(1, 1, 5, 9).moves(1, 0, false), 1);
        due(22, "by a middle one, greatest", row(1, 1, 5, 9).moves(1, 0, true), 9);
        due(22, "commonest", row(4, 3, 8, 9).moves(0, 0, true), 9);
        due(22, "commonest, least", row(4, 3, 8, 9).moves(0, 0, false), 0);
        dueThrow(22, "no person", INDEX, () -> x.moves(4, 0, true));
        dueThrow(22, "no kind", INDEX, () -> x.moves(0, 4, true));
        due(23, "the least of several", x.sham(2, 0), 98);
        due(23, "downwards", x.sham(0, 0), 0);
        due(23, "as near as can be, not the end", row(0, 50, 50, 20).sham(0, 0), 80);
        due(23, "it is there", row(0, 50, 50).sham(0, 0), -1);
        due(23, "by the one in the middle nobody", row(1, 1, 5, 9).sham(0, 0), -1);
        due(23, "commonest", row(4, 5, 8, 9).sham(2, 0), 8);
        dueThrow(23, "no person", INDEX, () -> x.sham(4, 0));
        dueThrow(23, "no kind", INDEX, () -> x.sham(0, -1));
        due(24, "rules", hall(FOUR).honest(0), 6);
        due(24, "nobody: all", new MeanMan().honest(0), 63);
        due(24, "all alike: all", row(0, 5, 5).honest(0), 63);
        dueThrow(24, "no kind", INDEX, () -> x.honest(4));
        due(25, "all", x.gainers(0), 15);
        due(25, "none", row(1, 1, 5, 9).gainers(0), 0);
        due(25, "those who are not there", row(0, 0, 50, 70).gainers(0), 6);
        due(25, "nobody", new MeanMan().gainers(0), 0);
        dueThrow(25, "no kind", INDEX, () -> x.gainers(-1));
    }

    private static void halvesAndBefore() {
        due(26, "no", row(0, 1, 3).halves(0), false);
        due(26, "so", row(0, 1, 2).halves(0), true);
        due(26, "nobody", new MeanMan().halves(0), false);
        dueThrow(26, "no kind", INDEX, () -> new MeanMan().halves(4));
        MeanMan x = row(0, 4, 4, 5, 5, 5, 9);
        due(27, "at it", x.near(0, false), 3);
        due(27, "at one more", row(1, 4, 4, 5, 5, 5, 3).near(0, true), 3);
        due(27, "at it, of those", row(1, 4, 4, 5, 5, 5, 3).near(0, false), 2);
        due(27, "nobody", new MeanMan().near(0, false), 0);
        due(27, "nobody at one more", new MeanMan().near(0, true), 0);
        dueThrow(27, "no kind", INDEX, () -> x.near(4, true));
        MeanMan y = row(3, 10, 20, 60, 60);
        due(28, "how many", y.before(0, 0, 37, false), 4);
        due(28, "the least", y.before(0, 0, 37, true), 8);
        due(28, "how many at the end", y.before(0, 0, 35, false), 4);
        due(28, "none", y.before(0, 0, 99, true), -1);
        due(28, "how many of none", y.before(0, 0, 99, false), 0);
        due(28, "fewer at the end", row(0, 0, 1).before(0, 0, 0, false), 1);
        due(28, "one alone at the other end", row(0, 5).before(0, 0, 99, true), 99);
        due(28, "how many there", row(0, 5).before(0, 0, 99, false), 1);
        due(28, "one alone at 0", row(0, 5).before(0, 0, 0, true), 0);
        dueThrow(28, "no person", INDEX, () -> y.before(4, 0, 100, false));
        dueThrow(28, "no kind", INDEX, () -> y.before(0, 4, 100, false));
        dueThrow(28, "100", ARGUMENT, () -> y.before(0, 0, 100, false));
        dueThrow(28, "-1", ARGUMENT, () -> y.before(0, 0, -1, true));
    }

    private static void shoes() {
        MeanMan x = row(0, 10, 20, 60, 60);
        due(29, "0", x.sizes(0, 0), 3);
        due(29, "4", x.sizes(0, 4), 3);
        due(29, "5", x.sizes(0, 5), 2);
        due(29, "20", row(0, 0, 40, 80, 99).sizes(0, 20), 2);
        due(29, "nobody", new MeanMan().sizes(0, 0), 0);
        dueThrow(29, "no kind", INDEX, () -> x.sizes(4, 21));
        dueThrow(29, "21", ARGUMENT, () -> x.sizes(0, 21));
        dueThrow(29, "-1", ARGUMENT, () -> new MeanMan().sizes(0, -1));
        due(30, "one", x.fits(0, 0, 1), 2);
        due(30, "two", x.fits(0, 0, 2), 3);
        due(30, "four", x.fits(0, 0, 4), 4);
        due(30, "not the fullest first", row(0, 0, 2, 4, 4, 6, 8).fits(0, 2, 2), 6);
        due(30, "nobody", new MeanMan().fits(0, 5, 1), 0);
        dueThrow(30, "no kind", INDEX, () -> x.fits(-1, 21, 0));
        dueThrow(30, "21", ARGUMENT, () -> x.fits(0, 21, 1));
        dueThrow(30, "no sizes", ARGUMENT, () -> x.fits(0, 20, 0));
        dueThrow(30, "five sizes", ARGUMENT, () -> x.fits(0, 20, 5));
        due(31, "0", x.shoe(0, 0), 60);
        due(31, "5", x.shoe(0, 5), 15);
        due(31, "20", x.shoe(0, 20), 40);
        due(31, "never below 0", row(0, 3).shoe(0, 5), 0);
        due(31, "the end", row(0, 99).shoe(0, 0), 99);
        due(31, "nobody", new MeanMan().shoe(0, 3), 0);
        dueThrow(31, "no kind", INDEX, () -> x.shoe(4, 0));
        dueThrow(31, "21", ARGUMENT, () -> x.shoe(0, 21));
    }

    private static void pullsAndSamples() {
        MeanMan x = row(0, 10, 20, 60, 60);
        due(32, "both to the ends", x.pull(0, 2, 0), 1 << 5);
        due(32, "the other way round", x.pull(2, 0, 0), 1 << 7);
        due(32, "none moves the one in the middle of five", row(1, 50, 50, 50, 1, 99).pull(3, 4, 0), 511);
        dueThrow(32, "no person", INDEX, () -> x.pull(4, 4, 0));
        dueThrow(32, "no other", INDEX, () -> x.pull(0, -1, 0));
        dueThrow(32, "no kind", INDEX, () -> x.pull(0, 0, 4));
        dueThrow(32, "both are one", ARGUMENT, () -> x.pull(1, 1, 0));
        due(33, "of all", x.samples(0, 4, 0, true), 1);
        due(33, "in all", x.samples(0, 4, 0, false), 1);
        due(33, "not in one", x.samples(0, 1, 16, false), 0);
        due(33, "in one", x.samples(0, 1, 17, false), 1);
        due(33, "pairs", x.samples(0, 2, 5, false), 4);
        due(33, "of pairs", x.samples(0, 2, 0, true), 6);
        due(33, "of more than there are", x.samples(0, 5, 99, true), 0);
        due(33, "in more than there are", x.samples(0, 5, 99, false), 0);
        due(33, "nobody", new MeanMan().samples(0, 1, 99, false), 0);
        due(33, "of nobody", new MeanMan().samples(0, 1, 99, true), 0);
        MeanMan heavy = hall("rule 0 5;person 0 0 0 0 weight 1;person 90 0 0 0 weight 9;person 90 0 0 0 weight 8");
        due(33, "by weights", heavy.samples(0, 2, 5, false), 3);
        due(33, "nearer by weights", heavy.samples(0, 2, 4, false), 1);
        dueThrow(33, "no kind", INDEX, () -> x.samples(4, 0, 0, true));
        dueThrow(33, "of none", ARGUMENT, () -> x.samples(0, 0, 0, true));
        dueThrow(33, "of nine", ARGUMENT, () -> x.samples(0, 9, 0, true));
        dueThrow(33, "-1", ARGUMENT, () -> x.samples(0, 1, -1, true));
        dueThrow(33, "100", ARGUMENT, () -> x.samples(0, 1, 100, true));
    }

    private static void nearAndFar() {
        MeanMan x = hall(FOUR);
        due(34, "nearest", x.nearest(), 3);
        due(34, "the least of several", row(0, 5, 3, 3).nearest(), 1);
        due(34, "nobody", new MeanMan().nearest(), -1);
        due(35, "100 is more than 99", x.hates(99), 5);
        due(35, "100 is not more than 100", x.hates(100), 4);
        due(35, "all", x.hates(0), 15);
        due(35, "none", x.hates(400), 0);
        dueThrow(35, "401", ARGUMENT, () -> x.hates(401));
        dueThrow(35, "-1", ARGUMENT, () -> new MeanMan().hates(-1));
        due(36, "none", x.twins(), 0);
        due(36, "three are three pairs", row(0, 5, 7, 5, 5).twins(), 3);
        due(36, "all kinds", hall("person 1 2 3 4 weight 1;person 1 2 3 5 weight 1;person 1 2 3 4 weight 9").twins(), 1);
        due(37, "all", hall(FOUR + ";rule 1 4;rule 2 5;rule 3 1").village(4), 15);
        due(37, "one", hall(FOUR + ";rule 1 4;rule 2 5;rule 3 1").village(1), 2);
        due(37, "the least of several", row(0, 9, 5, 9, 5).village(2), 3);
        due(37, "more than there are", x.village(5), -1);
        due(37, "nobody", new MeanMan().village(1), -1);
        dueThrow(37, "0", ARGUMENT, () -> x.village(0));
        dueThrow(37, "9", ARGUMENT, () -> x.village(9));
    }

    private static void votes() {
        MeanMan x = hall(FOUR);
        due(38, "above", x.majority(0, 20), 5);
        due(38, "below 0", x.majority(3, 99), -8);
        due(38, "nobody", new MeanMan().majority(0, 0), 0);
        dueThrow(38, "no kind", INDEX, () -> x.majority(4, 100));
        dueThrow(38, "100", ARGUMENT, () -> x.majority(0, 100));
        dueThrow(38, "-1", ARGUMENT, () -> x.majority(0, -1));
        due(39, "the least one", x.rank(0, 0), 3);
        due(39, "the second", x.rank(1, 0), 2);
        due(39, "two alike", x.rank(2, 0) + x.rank(3, 0), 0);
        dueThrow(39, "no person", INDEX, () -> x.rank(4, 0));
        dueThrow(39, "no kind", INDEX, () -> x.rank(0, 4));
        due(40, "range", x.range(0), 50);
        due(40, "of one", row(0, 7).range(0), 0);
        due(40, "nobody", new MeanMan().range(3), 0);
        dueThrow(40, "no kind", INDEX, () -> x.range(-1));
    }

    private static void trials() {
        MeanMan x = hall("person 10 0 0 0 weight 1;person 30 0 0 0 weight 1;strike 100");
        due(41, "none", x.trial(0, 0), 0);
        due(41, "one", x.trial(0, 1), 20);
        for (int n = 0; n <= 60; n += 5) {
            int least = 99;
            int most = 0;
            int trial = x.trial(0, n);
            for (int seed = 1; seed <= 6; seed++) {
                MeanMan y = hall("person 10 0 0 0 weight 1;person 30 0 0 0 weight 1;strike 100");
                y.seed(seed);
                if (n > 0) {
                    y.days(n);
                }
                if (seed == 1) {
                    due(41, "a trial is what days would be", trial, y.man(0));
                }
                least = Math.min(least, y.man(0));
                most = Math.max(most, y.man(0));
            }
            due(42, "least", x.span(0, n, false), least);
            due(42, "greatest", x.span(0, n, true), most);
        }
        due(41, "nothing stays", x.count(3) + x.count(11) + x.count(12) + x.man(0) + x.number(0, 0), 10);
        due(41, "no seed either", x.seed(77), 1);
        x.trial(0, 3);
        x.span(0, 3, true);
        due(42, "a span leaves the seed", x.seed(1), 77);
        dueThrow(41, "no kind", INDEX, () -> x.trial(4, 61));
        dueThrow(41, "61", ARGUMENT, () -> x.trial(0, 61));
        dueThrow(41, "-1", ARGUMENT, () -> x.trial(0, -1));
        dueThrow(42, "no kind", INDEX, () -> x.span(4, 61, true));
        dueThrow(42, "61", ARGUMENT, () -> x.span(0, 61, true));
        dueThrow(42, "-1", ARGUMENT, () -> x.span(0, -1, true));
    }

    private static void logs() {
        MeanMan x = law(row(0, 0), "up 1 if day<3");
        due(44, "no rows", x.steady(), 0);
        due(43, "no rows", x.led(0, 0), -1);
        due(45, "no rows", x.log(0, 0), -1);
        x.days(6);
        due(45, "day of the latest", x.log(0, 0), 5);
        due(45, "man of the latest", x.log(0, 1), 3);
        due(45, "day of the first", x.log(5, 0), 0);
        due(45, "man of the second", x.log(4, 1), 1);
        due(45, "changed on the third", x.log(3, 5), 4);
        due(45, "changed on the fourth", x.log(2, 5), 0);
        due(45, "another kind", x.log(4, 4), 1);
        due(45, "without", x.log(6, 0), -1);
        due(45, "below 0", x.log(-1, 0), -1);
        dueThrow(45, "another what", ELEMENT, () -> x.log(0, 6));
        dueThrow(45, "a what below 0", ELEMENT, () -> x.log(0, -1));
        dueThrow(45, "another what without a row", ELEMENT, () -> x.log(99, 6));
        due(43, "the latest", x.led(0, 3), 5);
        due(43, "an earlier one", x.led(0, 2), 2);
        due(43, "none", x.led(0, 4), -1);
        due(43, "no number at all", x.led(0, -5), -1);
        dueThrow(43, "no kind", INDEX, () -> x.led(4, 0));
        due(44, "the same four", x.steady(), 3);
        x.tell(0, 3, 9);
        x.days(1);
        due(44, "another fourth", x.steady(), 1);
        x.days(58);
        due(50, "60 rows at most", x.count(11), 60);
        due(45, "the oldest that is left", x.log(59, 0), 5);
        due(43, "a row that is gone", x.led(0, 0), -1);
        x.days(60);
        due(44, "all rows", x.steady(), 60);
    }

    private static void undoing() {
        MeanMan x = hall(FOUR + ";strike 50");
        due(47, "none", x.undo(), false);
        x.seed(5);
        x.tell(0, 0, 99);
        x.seed(6);
        due(47, "one", x.undo(), true);
        due(47, "number", x.number(0, 0), 10);
        due(47, "all is as ahead of it", x.seed(5), 5);
        x.days(30);
        x.days(30);
        int man = x.log(30, 1);
        x.undo();
        due(47, "days of one call are one", x.count(3), 30);
        due(47, "the log too", x.count(11), 30);
        due(47, "and its rows", x.log(0, 1), man);
        x.undo();
        due(47, "seed", x.seed(5), 5);
        due(47, "nothing more", x.undo(), false);
        for (int i = 0; i < 13; i++) {
            x.tell(0, 0, i);
        }
        due(50, "12 are remembered", x.count(12), 12);
        for (int i = 0; i < 12; i++) {
            due(47, "undone", x.undo(), true);
        }
        due(47, "not the first one", x.undo(), false);
        due(47, "so it stays", x.number(0, 0), 0);
        x.rule(0, 4);
        x.stubborn(2, true);
        x.leave(1);
        feed(x, "strike ?");
        dueThrow(4, "wrong", ARGUMENT, () -> x.hall());
        due(47, "a wrong text leaves them", x.count(12), 3);
        x.undo();
        due(47, "all are there again", x.count(0) * 100 + x.person(1, 0), 402);
        x.undo();
        due(47, "stubborn no more", x.count(9), 0);
        x.undo();
        due(47, "rule", x.count(5), 0);
        x.rule(0, 1);
        law(x, "up 1");
        due(47, "a law: none are remembered", x.undo(), false);
        x.rule(0, 2);
        hall(x, "");
        due(47, "a text of the hall: none", x.undo(), false);
        x.rule(0, 3);
        dueThrow(16, "days", ARGUMENT, () -> x.days(0));
        due(47, "what throws is no act", x.count(12), 1);
    }

    private static void images() {
        MeanMan x = law(hall(FOUR), "up 1");
        due(49, "none was kept", x.back(), false);
        x.tell(0, 0, 11);
        due(49, "nothing happens", x.count(12), 1);
        x.seed(9);
        x.image();
        due(48, "acts stay", x.count(12), 1);
        x.days(3);
        x.rule(2, 2);
        x.leave(0);
        law(x, "down 1;down 2");
        hall(x, "strike 9;person 1 1 1 1 weight 1");
        x.rule(1, 1);
        x.feed(0x75702020, 0x31202020, 0x20202020, 0x20202020, 0x20202020);
        due(49, "back", x.back(), true);
        due(49, "acts are forgotten", x.count(12), 0);
        due(49, "none to undo", x.undo(), false);
        due(49, "people", x.count(0) * 1000 + x.person(3, 0) * 100 + x.number(0, 0), 4511);
        due(49, "texts", x.count(1), 1);
        due(49, "law", x.count(2) * 100 + x.goes(0, 0), 112);
        due(49, "day, strike, rules, rows", x.count(3) + x.count(4) + x.count(6) + x.count(7) + x.count(11), 0);
        due(49, "seed", x.seed(3), 9);
        due(49, "the tape stays", x.law(), 1);
        law(x, "");
        due(49, "back again", x.back(), true);
        due(49, "seed again", x.seed(3), 9);
        due(49, "law again", x.goes(0, 0), 12);
        x.leave(0);
        x.image();
        x.leave(0);
        x.back();
        due(48, "another in its place", x.count(0), 3);
        MeanMan lawless = new MeanMan();
        lawless.image();
        law(lawless, "up 1");
        lawless.back();
        due(49, "no law was told then", lawless.count(2), -1);
        x.tell(0, 0, 1);
        x.image();
        x.undo();
        due(48, "undoing leaves it", x.back(), true);
        due(48, "as it was kept", x.number(0, 0), 1);
    }

    private static void counts() {
        MeanMan x = law(hall(FOUR + ";rule 0 1;rule 1 2;rule 2 3;rule 3 4;strike 0;stubborn 0;stubborn 3"), "up 1");
        x.days(2);
        x.tell(0, 0, 0);
        int[] counts = {4, 1, 1, 2, 0, 1, 2, 3, 4, 9, 9, 2, 2};
        for (int what = 0; what < counts.length; what++) {
            due(50, "count " + what, x.count(what), counts[what]);
        }
        due(50, "13", x.count(13), -1);
        due(50, "-1", x.count(-1), -1);
    }

    public static void main(String[] args) {
        newObject();
        tape();
        hallTexts();
        hallLimits();
        wrongHalls();
        laws();
        faults();
        numbers();
        middles();
        going();
        acts();
        passingDays();
        strikes();
        aheadAndRound();
        fewestAndRules();
        movesAndShams();
        halvesAndBefore();
        shoes();
        pullsAndSamples();
        nearAndFar();
        votes();
        trials();
        logs();
        undoing();
        images();
        counts();
        finish();
    }
}
