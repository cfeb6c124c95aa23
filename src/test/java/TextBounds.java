/** Boundary cases of the two texts: the sentences of 'Terms' on THE HALL, THE LAW, words and wrong bytes. */
final class TextBounds extends Bounds {
    private static final String PERSON = "person 1 2 3 4 weight 5";

    private TextBounds() {
    }

    private static String lines(String line, int many) {
        return (line + ";").repeat(many - 1) + line;
    }

    private static void numbersOfHall() {
        sentence("Terms", "KINDS 0 to 3");
        MeanMan x = rightHall("rule 0 1;rule 3 2;" + PERSON + ";number 0 0 98;number 0 3 97");
        is("rule of kind 0", x.count(5), 1);
        is("rule of kind 3", x.count(8), 2);
        is("number of kind 0", x.number(0, 0), 98);
        is("number of kind 3", x.number(0, 3), 97);
        wrongHall("rule 4 0", 5);
        wrongHall("number 0 4 5", 9);
        sentence("Terms", "NUMBERS 0 to 99");
        String[] places = {"person @ 2 3 4 weight 5", "person 1 @ 3 4 weight 5", "person 1 2 @ 4 weight 5",
            "person 1 2 3 @ weight 5", "man @ 2 3 4", "man 1 @ 3 4", "man 1 2 @ 4", "man 1 2 3 @", PERSON + ";number 0 1 @"};
        for (String place : places) {
            rightHall(place.replace("@", "0"));
            rightHall(place.replace("@", "99"));
            wrongHall(place.replace("@", "100"), place.indexOf('@'));
            wrongHall(place.replace("@", "-1"), place.indexOf('@'));
        }
        MeanMan ends = rightHall("person 0 99 0 99 weight 1;man 99 0 99 0");
        for (int kind = 0; kind < 4; kind++) {
            is("number of kind " + kind, ends.number(0, kind), kind % 2 == 0 ? 0 : 99);
            is("the man of kind " + kind, ends.man(kind), kind % 2 == 0 ? 99 : 0);
        }
        sentence("Terms", "WEIGHT 1 to 9");
        is("1", rightHall("person 1 2 3 4 weight 1").person(0, 0), 1);
        is("9", rightHall("person 1 2 3 4 weight 9").person(0, 0), 9);
        wrongHall("person 1 2 3 4 weight 0", 22);
        wrongHall("person 1 2 3 4 weight 10", 22);
        sentence("Terms", "STRIKE 0 to 100 (0 at first)");
        is("at first", new MeanMan().count(4), 0);
        is("100", rightHall("strike 100").count(4), 100);
        is("0 again", rightHall("strike 100;strike 0").count(4), 0);
        wrongHall("strike 101", 7);
        wrongHall("strike -1", 7);
        sentence("Terms", "N of rule: 0 to 5");
        is("5", rightHall("rule 1 5").count(6), 5);
        is("0 again", rightHall("rule 1 5;rule 1 0").count(6), 0);
        wrongHall("rule 0 6", 7);
        wrongHall("rule 0 -1", 7);
    }

    private static void persons() {
        sentence("Terms", "PEOPLE (at most 8, numbered from 0 on)");
        is("7", rightHall(lines(PERSON, 7)).count(0), 7);
        MeanMan x = rightHall(lines(PERSON, 7) + ";person 9 8 7 6 weight 5");
        is("8", x.count(0), 8);
        is("the last of 8", x.number(7, 0), 9);
        is("the first of 8", x.number(0, 0), 1);
        refusedHall(lines(PERSON, 9), MeanMan::new, ARGUMENT, 8 * 24);
        refusedHall(lines(PERSON, 6), Bounds::busy, ARGUMENT, 5 * 24);
        rightHall(busy(), lines(PERSON, 5));
        MeanMan again = hall(lines(PERSON, 8));
        again.leave(0);
        is("room again behind one who left", rightHall(again, PERSON).count(0), 8);
        feed(again, PERSON);
        dueThrow("and no more than that", ARGUMENT, () -> again.hall());
        sentence("Terms", "K: a KIND");
        rightHall(PERSON + ";number 0 3 0;rule 3 0");
        wrongHall("rule 4 0", 5);
        wrongHall("rule 999 0", 5);
        sentence("Terms", "P: a PERSON that there is by then");
        is("of the same text", rightHall(PERSON + ";stubborn 0").count(9), 1);
        is("of the same text, a number", rightHall(PERSON + ";number 0 2 77").number(0, 2), 77);
        refusedHall("stubborn 0", Bounds::empty, ARGUMENT, 9);
        refusedHall("number 0 0 0", Bounds::empty, ARGUMENT, 7);
        refusedHall("stubborn 0;" + PERSON, Bounds::empty, ARGUMENT, 9);
        is("the last of three", rightHall(busy(), "stubborn 2").count(9), 6);
        wrongHall("stubborn 3", 9);
        wrongHall("number 3 0 0", 7);
        wrongHall(PERSON + ";stubborn 4", 33);
        MeanMan eight = rightHall(lines(PERSON, 8) + ";stubborn 7;number 7 0 99");
        is("the last of eight is stubborn", eight.count(9), 128);
        is("the last of eight has another number", eight.number(7, 0), 99);
        wrongHall(lines(PERSON, 5) + ";stubborn 8", 129);
        MeanMan fewer = hall(lines(PERSON, 8));
        fewer.leave(3);
        feed(fewer, "stubborn 7");
        dueThrow("the eighth of seven", ARGUMENT, () -> fewer.hall());
        is("the eighth of seven", fewer.fault(), 9);
    }

    private static void hallTexts() {
        sentence("Terms", "THE HALL is told in texts (at most 12, one behind another)");
        MeanMan x = new MeanMan();
        for (int i = 1; i <= 12; i++) {
            rightHall(x, i < 9 ? PERSON : "strike " + i);
            is("texts", x.count(1), i);
        }
        is("people of eight texts", x.count(0), 8);
        is("strike of the 12th", x.count(4), 12);
        refusedHall("strike 13", Bounds::full, UNSUPPORTED, -1);
        refusedHall("", Bounds::full, UNSUPPORTED, -1);
        refusedHall("strike ?", Bounds::full, ARGUMENT, 7);
        refusedHall(PERSON, Bounds::full, ARGUMENT, 0);
        sentence("Terms", "LINE { ; LINE }, at most 14: person N N N N weight N");
        is("13", rightHall(lines("strike 1", 12) + ";strike 13").count(4), 13);
        is("14", rightHall(lines("strike 1", 13) + ";strike 14").count(4), 14);
        wrongHall(lines("strike 1", 15), 126);
        wrongHall(lines("strike 1", 14) + ";", 126);
        wrongHall(lines("strike 1", 14) + "; ", 127);
        wrongHall(lines("strike 1", 14) + " ;  strike 1", 129);
        wrongHall(lines("strike 1", 14) + ";wrong", 126);
        wrongHall(lines("strike 1", 14) + " strike 1", 126);
        sentence("Terms", "stubborn P | rule K N | strike N | man N N N N | number P K N");
        String[] right = {"stubborn 0", "rule 0 0", "strike 0", "man 0 0 0 0", "number 0 0 0"};
        for (String line : right) {
            rightHall(busy(), line);
            wrongHall(line + " 0", line.length() + 1);
            wrongHall(line.substring(0, line.length() - 2), line.length() - 2);
        }
        sentence("Terms", "Numbers of person, man: of KINDS 0 to 3");
        MeanMan order = rightHall("person 1 2 3 4 weight 5;man 6 7 8 9");
        for (int kind = 0; kind < 4; kind++) {
            is("person of kind " + kind, order.number(0, kind), kind + 1);
            is("man of kind " + kind, order.man(kind), kind + 6);
        }
        sentence("Terms", "Numbers are of 1 to 3 digits");
        is("one digit", rightHall("strike 7").count(4), 7);
        is("two digits", rightHall("strike 07").count(4), 7);
        is("three digits", rightHall("strike 007").count(4), 7);
        is("three digits of a man", rightHall("man 099 000 001 010").man(0), 99);
        rightHall(PERSON + ";stubborn 000;rule 003 005;number 000 003 099");
        rightHall("person 001 002 003 004 weight 009");
        wrongHall("strike 0007", 7);
        wrongHall("strike 00000000000000000000000000000007", 7);
        wrongHall("strike 4294967296", 7);
        wrongHall("strike", 6);
        wrongHall("man 0001 2 3 4", 4);
        wrongHall("person 1 2 3 4 weight 0001", 22);
        wrongHall("stubborn 0000", 9);
        wrongHall("rule 0000 1", 5);
        wrongHall("rule 0 0001", 7);
        wrongHall("number 0000 0 0", 7);
        wrongHall("number 0 0000 0", 9);
        wrongHall("number 0 0 0001", 11);
    }

    private static void laws() {
        sentence("Terms", "THE LAW (a text, in place of the one before)");
        MeanMan x = law(hall("person 50 50 50 50 weight 1"), "up 1;up 2");
        is("two lines", x.goes(0, 0), 53);
        law(x, "down 5");
        is("one line in their place", x.goes(0, 0), 45);
        is("how many", x.count(2), 1);
        law(x, "");
        is("none in its place", x.goes(0, 0), 50);
        is("how many of none", x.count(2), 0);
        sentence("Terms", "LINE { ; LINE }, at most 12: up N [ if C ] | down N [ if C ] | toward N [ if C ]");
        rightLaw(lines("up 1", 11), 11);
        rightLaw(lines("up 1", 12), 12);
        wrongLaw(lines("up 1", 13), 60);
        wrongLaw(lines("up 1", 12) + ";", 60);
        wrongLaw(lines("up 1", 12) + ";  ", 62);
        wrongLaw(lines("up 1", 12) + " ; wrong", 62);
        wrongLaw(lines("up 1", 12) + " up 1", 60);
        MeanMan twelve = law(hall("person 0 0 0 0 weight 1"), lines("up 1", 11) + ";up 2");
        is("all twelve hold", twelve.goes(0, 0), 13);
        sentence("Terms", "All numbers are of 1 to 3 digits (N 0 to 20)");
        for (String way : new String[] {"up ", "down ", "toward "}) {
            rightLaw(way + "0", 1);
            rightLaw(way + "20", 1);
            rightLaw(way + "020", 1);
            wrongLaw(way + "21", way.length());
            wrongLaw(way + "0020", way.length());
            wrongLaw(way + "-1", way.length());
        }
        rightLaw("up 1 if 0 < 1", 1);
        rightLaw("up 1 if 999 > 000", 1);
        wrongLaw("up 1 if 1000 > 0", 8);
        wrongLaw("up 1 if 0001 > 0", 8);
        wrongLaw("up 1 if 0 < 1000", 12);
        wrongLaw("up 1 if 0 < 1 + 0001", 16);
        is("999 is less than 999 and 1", goes(50, 40, "up 1 if 999 < 999 + 1"), 51);
        is("999 is not less than 999", goes(50, 40, "up 1 if 999 < 999"), 50);
    }

    private static void lawGrammar() {
        sentence("Terms", "C: ALL { or ALL }; ALL: ATOM { and ATOM }");
        rightLaw("up 1 if above or above or above and above and above", 1);
        wrongLaw("up 1 if", 7);
        wrongLaw("up 1 if ;", 8);
        wrongLaw("up 1 if above or", 16);
        wrongLaw("up 1 if above or or above", 17);
        wrongLaw("up 1 if above and", 17);
        wrongLaw("up 1 if above and or above", 18);
        wrongLaw("up 1 if above above", 14);
        wrongLaw("up 1 if above if above", 14);
        is("the longest chain of or", goes(50, 40, "up 1 if " + "1>2 or ".repeat(54) + "above"), 51);
        is("the longest chain of and", goes(50, 40, "up 1 if " + "1<2 and ".repeat(48) + "above"), 51);
        sentence("Terms", "ATOM: not ATOM | ( C ) | above | below | SUM < SUM | SUM > SUM");
        wrongLaw("up 1 if not", 11);
        wrongLaw("up 1 if not;up 1", 11);
        wrongLaw("up 1 if not)", 11);
        wrongLaw("up 1 if ()", 9);
        wrongLaw("up 1 if (above", 14);
        wrongLaw("up 1 if (above;up 1", 14);
        wrongLaw("up 1 if above)", 13);
        wrongLaw("up 1 if (above))", 15);
        wrongLaw("up 1 if 1", 9);
        wrongLaw("up 1 if 1 and 2", 10);
        wrongLaw("up 1 if 1 < 2 < 3", 14);
        wrongLaw("up 1 if 1 = 2", 10);
        wrongLaw("up 1 if 1 <> 2", 11);
        wrongLaw("up 1 if 1 < above", 12);
        wrongLaw("up 1 if above < 1", 14);
        wrongLaw("up 1 if (1) < 2", 10);
        wrongLaw("up 1 if (1 + 1) < 2", 14);
        is("1 is not less than 1", goes(50, 40, "up 1 if 1 < 1"), 50);
        is("1 is less than 2", goes(50, 40, "up 1 if 1 < 2"), 51);
        is("2 is not less than 1", goes(50, 40, "up 1 if 2 < 1"), 50);
        is("1 is not more than 1", goes(50, 40, "up 1 if 1 > 1"), 50);
        is("1 is not more than 2", goes(50, 40, "up 1 if 1 > 2"), 50);
        is("2 is more than 1", goes(50, 40, "up 1 if 2 > 1"), 51);
        sentence("Terms", "SUM: PART { + PART }; PART: NUMBER | who | kind | mine | his | apart | day");
        wrongLaw("up 1 if + 1 < 2", 8);
        wrongLaw("up 1 if 1 + < 2", 12);
        wrongLaw("up 1 if 1 + + 1 < 2", 12);
        wrongLaw("up 1 if 1 1 < 2", 10);
        wrongLaw("up 1 if 1 < 2 +", 15);
        wrongLaw("up 1 if whose < 2", 8);
        wrongLaw("up 1 if weight < 2", 8);
        MeanMan eight = law(hall(lines(PERSON, 8)), "up 1 if who > 6;up 2 if who < 1;up 4 if kind > 2;up 8 if kind < 1;up 16 if day > 0");
        is("who 0, kind 0", eight.goes(0, 0), 1 + 2 + 8);
        is("who 0, kind 3", eight.goes(0, 3), 4 + 2 + 4);
        is("who 1, kind 1", eight.goes(1, 1), 2);
        is("who 6, kind 2", eight.goes(6, 2), 3);
        is("who 7, kind 3", eight.goes(7, 3), 4 + 1 + 4);
        eight.days(1);
        is("day 1", eight.goes(1, 1), 2 + 16);
        is("the longest sum", goes(50, 40, "up 1 if 193<" + "1+".repeat(193) + "00"), 50);
        is("the longest sum, one more", goes(50, 40, "up 1 if 193<" + "1+".repeat(193) + "01"), 51);
        is("the greatest sum", goes(50, 40, "up 1 if 999<" + "999+".repeat(96) + "9"), 51);
    }

    /** What the first person of kind 0 goes to by a law. */
    private static int goes(int mine, int his, String law) {
        return law(hall("person " + mine + " 0 0 0 weight 1;man " + his + " 0 0 0"), law).goes(0, 0);
    }

    private static void going() {
        sentence("Terms", "apart: how far they are; above: mine is greater; below: it is less");
        for (int mine = 49; mine <= 51; mine++) {
            int apart = Math.abs(mine - 50);
            is("apart of " + mine + " above 0", goes(mine, 50, "up 5 if apart > 0"), apart > 0 ? mine + 5 : mine);
            is("apart of " + mine + " below 1", goes(mine, 50, "up 5 if apart < 1"), apart < 1 ? mine + 5 : mine);
            is("above of " + mine, goes(mine, 50, "up 5 if above"), mine == 51 ? 56 : mine);
            is("below of " + mine, goes(mine, 50, "up 5 if below"), mine == 49 ? 54 : mine);
        }
        is("farthest apart", goes(0, 99, "up 5 if apart > 98"), 5);
        is("no farther", goes(99, 0, "down 5 if apart > 99"), 99);
        sentence("Terms", "Of a PERSON and a KIND: mine: that NUMBER; his: THE MAN's");
        is("mine is 50, not more", goes(50, 40, "up 1 if mine > 50"), 50);
        is("mine is 50, more than 49", goes(50, 40, "up 1 if mine > 49"), 51);
        is("his is 40, not less", goes(50, 40, "up 1 if his < 40"), 50);
        is("his is 40, less than 41", goes(50, 40, "up 1 if his < 41"), 51);
        sentence("Terms", "GOES: mine, nearer to his by the sum of N of all toward LINES that hold (to his at most)");
        int[] steps = {0, 9, 10, 11, 20};
        int[] from40 = {40, 49, 50, 50, 50};
        int[] from60 = {60, 51, 50, 50, 50};
        for (int i = 0; i < steps.length; i++) {
            is("from below by " + steps[i], goes(40, 50, "toward " + steps[i]), from40[i]);
            is("from above by " + steps[i], goes(60, 50, "toward " + steps[i]), from60[i]);
            is("from his by " + steps[i], goes(50, 50, "toward " + steps[i]), 50);
        }
        is("two lines, 1 too few", goes(40, 50, "toward 4;toward 5"), 49);
        is("two lines, 1 too many", goes(40, 50, "toward 5;toward 6"), 50);
        is("twelve lines", goes(0, 99, lines("toward 20", 12)), 99);
        is("twelve lines down", goes(99, 0, lines("toward 20", 12)), 0);
        is("only those that hold", goes(40, 50, "toward 3;toward 3 if above;toward 3 if below"), 46);
        sentence("Terms", "then more by that of all up LINES, less by that of all down LINES (0 to 99 then)");
        is("97 and 1", goes(97, 97, "up 1"), 98);
        is("97 and 2", goes(97, 97, "up 2"), 99);
        is("97 and 3", goes(97, 97, "up 3"), 99);
        is("99 and 20", goes(99, 99, "up 20"), 99);
        is("2 less 1", goes(2, 2, "down 1"), 1);
        is("2 less 2", goes(2, 2, "down 2"), 0);
        is("2 less 3", goes(2, 2, "down 3"), 0);
        is("0 less 20", goes(0, 0, "down 20"), 0);
        is("twelve up", goes(0, 0, lines("up 20", 12)), 99);
        is("twelve down", goes(99, 99, lines("down 20", 12)), 0);
        is("up over 99 and down again", goes(95, 95, "up 20;down 17"), 98);
        is("down under 0 and up again", goes(5, 5, "down 20;up 18"), 3);
        is("toward, up over 99, down", goes(90, 99, "toward 20;up 5;down 10"), 94);
        is("toward to 0, down, up", goes(9, 0, "toward 20;down 5;up 10"), 5);
        sentence("Terms", "all LINES are asked by what mine is ahead of it");
        is("below though toward came to his", goes(40, 50, "toward 10;up 5 if below"), 55);
        is("not above though up came over", goes(50, 50, "up 5;up 5 if above"), 55);
        is("apart as it was", goes(40, 50, "toward 5;up 1 if apart > 9;up 2 if apart < 6"), 46);
        is("mine as it was", goes(40, 50, "up 5;up 1 if mine < 41;up 2 if mine > 40"), 46);
        sentence("Terms", "(Without a text no LINE holds.)");
        MeanMan lawless = hall("person 50 0 0 99 weight 1;man 40 0 0 0");
        is("goes", lawless.goes(0, 0), 50);
        is("goes in kind 3", lawless.goes(0, 3), 99);
        is("days", lawless.days(1), 0);
        is("lines", lawless.count(2), -1);
    }

    private static void words() {
        sentence("Terms", "Words are as long as a to z go on");
        is("a number right behind", rightHall("strike7").count(4), 7);
        is("no blank but between words", rightHall("person1 2 3 4weight5;man6 7 8 9;rule0 1;stubborn0").count(0), 1);
        wrongHall("strikes 7", 0);
        wrongHall("strik 7", 0);
        wrongHall("strikea7", 0);
        wrongHall("strikez7", 0);
        wrongHall("strike" + (char) 96 + "7", 6);
        wrongHall("strike{7", 6);
        wrongHall("Strike 7", 0);
        wrongHall("strikE 7", 0);
        wrongHall("strike A", 7);
        wrongHall("s trike 7", 0);
        wrongHall("strike 7/", 8);
        wrongHall("strike 7:", 8);
        wrongHall("strike /7", 7);
        wrongHall("strike :7", 7);
        wrongHall("person 1 2 3 4 weights 5", 15);
        wrongHall("person 1 2 3 4weightx5", 14);
        wrongHall("strike 7strike 8", 8);
        wrongHall("z".repeat(400), 0);
        wrongHall(" ".repeat(395) + "strik", 395);
        wrongHall(" ".repeat(394) + "strike", 400);
        wrongHall(" ".repeat(399) + "s", 399);
        wrongLaw("up 1 if " + " ".repeat(388) + "abov", 396);
        rightLaw("up1if(not above)and(below)or(1<2)", 1);
        wrongLaw("up 1 ifabove", 5);
        wrongLaw("up 1 if notabove", 8);
        wrongLaw("up 1 if aboveand below", 8);
        wrongLaw("up 1 if above andbelow", 14);
        wrongLaw("uptoward 1", 0);
        sentence("Terms", "between all there may be blanks (32), also ahead and behind");
        is("of the hall", rightHall("   strike   7   ;   strike   8   ").count(4), 8);
        rightLaw("  up  1  if  (  not  mine  +  1  <  his  or  day  >  3  )  and  below  ;  down  2  ", 2);
        is("the longest", rightHall(" ".repeat(392) + "strike 7").count(4), 7);
        is("the longest behind", rightHall("strike 7" + " ".repeat(392)).count(4), 7);
        is("a number of three digits at the end", rightHall(" ".repeat(390) + "strike 100").count(4), 100);
        wrongHall(" ".repeat(390) + "strike 101", 397);
        rightLaw("up 1 if " + " ".repeat(387) + "above", 1);
        for (int sign : new int[] {0, 9, 10, 13, 31, 33, 127, 128, 160, 224, 255}) {
            wrongHall("strike" + (char) sign + "7", 6);
            wrongHall((char) sign + "strike 7", 0);
            wrongHall("strike 7" + (char) sign, 8);
            wrongLaw("up 1" + (char) sign, 4);
        }
        wrongHall("strike 1 0", 9);
        MeanMan cut = new MeanMan();
        feed(cut, "strike 77;strike 88");
        cut.end(8);
        is("what was cut off is not read", cut.hall() * 100 + cut.count(4), 107);
        feed(cut, "strike 99");
        cut.end(5);
        dueThrow("a word that was cut", ARGUMENT, () -> cut.hall());
        is("a word that was cut", cut.fault(), 0);
        sentence("Terms", "A text that is empty, or blanks alone, has no LINE");
        for (int blanks : new int[] {0, 1, 2, 399, 400}) {
            is("people of " + blanks + " blanks", rightHall(busy(), " ".repeat(blanks)).count(0), 3);
            rightLaw(" ".repeat(blanks), 0);
        }
        wrongHall(";", 0);
        wrongHall("  ;", 2);
        wrongLaw(";", 0);
        wrongLaw("  ;", 2);
    }

    private static void depth() {
        sentence("Terms", "( and not within one another at most 6 deep");
        for (int deep = 1; deep <= 6; deep++) {
            String brackets = "up 1 if " + "(".repeat(deep) + "above" + ")".repeat(deep);
            is(deep + " (", goes(50, 40, brackets), 51);
            is(deep + " not", goes(50, 40, "up 1 if " + "not ".repeat(deep) + "above"), deep % 2 == 0 ? 51 : 50);
            is(deep + " not of what is not", goes(50, 40, "up 1 if " + "not ".repeat(deep) + "below"), deep % 2 == 0 ? 50 : 51);
        }
        wrongLaw("up 1 if (((((((above)))))))", 14);
        wrongLaw("up 1 if not not not not not not not above", 32);
        String waiting = "up 1 if " + "below or above and (".repeat(6) + "below or above and 1+1<1+@" + ")".repeat(6);
        is("as much waits as can, and holds", goes(50, 40, waiting.replace("@", "2")), 51);
        is("as much waits as can, and does not hold", goes(50, 40, waiting.replace("@", "1")), 50);
        rightLaw("up 1 if not(not(not(above)))", 1);
        wrongLaw("up 1 if not(not(not(not above)))", 20);
        wrongLaw("up 1 if not(not(not((above))))", 20);
        rightLaw("up 1 if (not(not(not above)))", 1);
        wrongLaw("up 1 if (not(not(not(above))))", 20);
        rightLaw("up 1 if ((((((above)))))) and ((((((above)))))) or not not not not not not above", 1);
        rightLaw("up 1 if not above and not above and not above and not above and not above and not above and not above", 1);
        rightLaw("up 1 if (((((not above and (above) or not below)))))", 1);
        wrongLaw("up 1 if (((((not above and (not above)))))))", 28);
        wrongLaw("up 1 if ((((above and not (above and not above)))))", 37);
        wrongLaw("up 1 if (((((above and not (above))))))", 27);
        rightLaw("up 1 if ((((((above))))));up 1 if ((((((above))))))", 2);
        wrongLaw("up 1;up 1 if " + "(".repeat(387), 19);
    }

    private static void wrongBytes() {
        sentence("Terms", "The first wrong byte: the begin of the first thing that cannot stand there");
        wrongHall("strike 1 ?", 9);
        wrongHall("strike ? strike ?", 7);
        wrongHall("   strike   x", 12);
        wrongHall("1 strike", 0);
        wrongLaw("up 1 if ? < ?", 8);
        wrongLaw("   up   x", 8);
        sentence("Terms", "(a number of more digits, or out of its bounds, or that tells none that can be; a word that is none");
        wrongHall("strike 1;strike 0100", 16);
        wrongHall("strike 1;strike 101", 16);
        wrongHall("strike 1;stubborn 3", 18);
        wrongHall("strike 1;rule 4 0", 14);
        wrongHall("strike 1;striking 1", 9);
        wrongHall("strike 1;weight 1", 9);
        wrongLaw("up 1;up 0020", 8);
        wrongLaw("up 1;up 21", 8);
        wrongLaw("up 1;upward 1", 5);
        wrongLaw("up 1;if above", 5);
        sentence("Terms", "the ( or not that is a 7th one deep");
        wrongLaw("up 1 if  ( ( ( ( ( ( ( above ) ) ) ) ) ) )", 21);
        wrongLaw("up 1 if (((((( not above))))))", 15);
        wrongLaw("up 1 if ((((((   not", 17);
        sentence("Terms", "of a LINE, a PERSON too many, the first word)");
        wrongHall(lines("strike 1", 14) + " ;   strike 1", 130);
        wrongHall(lines("strike 1", 14) + ";strike wrong", 126);
        wrongLaw(lines("up 1", 12) + " ;   down 1", 64);
        wrongLaw(lines("up 1", 12) + ";down wrong", 60);
        refusedHall("   person 1 2 3 4 weight 5", Bounds::full, ARGUMENT, 3);
        refusedHall("person 100", Bounds::full, ARGUMENT, 0);
        refusedHall("strike 1;person", Bounds::full, ARGUMENT, 9);
        sentence("Terms", "or the text's length, if more must come");
        moreMustCome(new String[] {"person", "1", "2", "3", "4", "weight", "5", ";", "stubborn", "0", ";", "rule", "1", "2", ";",
            "strike", "3", ";", "man", "1", "2", "3", "4", ";", "number", "0", "1", "2"}, true);
        moreMustCome(new String[] {"up", "1", "if", "not", "(", "mine", "+", "2", "<", "his", "or", "above", "and", "below", ")",
            ";", "toward", "2", "if", "day", ">", "who", "+", "kind", ";", "down", "3"}, false);
    }

    /** Cuts a text behind each of its things, with blanks behind that or none. */
    private static void moreMustCome(String[] things, boolean isHall) {
        StringBuilder text = new StringBuilder();
        for (int i = 0; i < things.length; i++) {
            text.append(i == 0 ? "" : " ").append(things[i]);
            if (!canEnd(things, i)) {
                for (String blanks : new String[] {"", " ", "   "}) {
                    String cut = text + blanks;
                    if (isHall) {
                        wrongHall(cut, cut.length());
                    } else {
                        wrongLaw(cut, cut.length());
                    }
                }
            } else if (isHall) {
                rightHall(busy(), text.toString());
            } else {
                rightLaw(text.toString(), text.toString().split(";").length);
            }
        }
    }

    /** A line of these ends ahead of its ; or if, or behind 'day > who'. */
    private static boolean canEnd(String[] things, int i) {
        return i + 1 == things.length || things[i + 1].equals(";") || things[i + 1].equals("if") || things[i].equals("who");
    }

    private static void nothingStays() {
        sentence("Terms", "Of a wrong text nothing stays");
        String all = "person 9 8 7 6 weight 5;stubborn 3;stubborn 0;rule 0 5;rule 3 4;strike 77;man 11 12 13 14;number 0 0 99";
        rightHall(busy(), all);
        wrongHall(all + ";", all.length() + 1);
        wrongHall(all + ";strike 101", all.length() + 8);
        wrongHall(all + "?", all.length());
        wrongLaw("up 1;down 2 if above;toward 3;", 30);
        wrongLaw("up 1;down 2 if above;toward 21", 28);
        MeanMan x = new MeanMan();
        feed(x, all.replace("stubborn 3", "stubborn 1"));
        dueThrow("a person that there is not", ARGUMENT, () -> x.hall());
        rightHall(x, PERSON);
        is("people of the next text", x.count(0), 1);
        is("its first number", x.number(0, 0), 1);
        is("stubborn", x.count(9), 0);
        is("strike", x.count(4), 0);
        is("rule", x.count(5), 0);
        is("man", x.man(3), 0);
        feed(x, "up 9 if not above;up 1 if");
        dueThrow("a law without a condition", ARGUMENT, () -> x.law());
        is("lines without a law", x.count(2), -1);
        feed(x, "up 2 if not above");
        is("lines of the next law", x.law(), 1);
        is("what it goes to", x.goes(0, 0), 1);
        law(x, "up 2");
        is("and by a third law", x.goes(0, 0), 3);
    }

    static void run() {
        numbersOfHall();
        persons();
        hallTexts();
        laws();
        lawGrammar();
        going();
        words();
        depth();
        wrongBytes();
        nothingStays();
    }
}
