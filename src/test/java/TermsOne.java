/** Terms 1: texts, their limits, their faults. */
final class TermsOne {
    private TermsOne() {
    }

    static void run() {
        lines();
        words();
        numbersAndBlanks();
        orAndAnd();
        notAndComparing();
        sumsAndSides();
        numbersAndNames();
        signsOfTwo();
        shelf();
        things();
        measures();
        manners();
        mannersInOrder();
        takenUp();
        faultsInOrder();
        faultOne();
        faultTwo();
        faultTwoKnots();
        faultThree();
        faultFour();
    }

    private static void says(String words) {
        Doc.says("1", words);
    }

    private static void good(String text, int lines) {
        Check.due("text \"" + text + "\"", Check.read(new TinTower(), text), lines);
    }

    /** What E of one thing is worth, which is 7 heavy and stands at 3. */
    private static void value(String e, long due) {
        Check.due("wish(0) by " + e, Check.of("thing a 3 0 4 2 7 rough 6;child " + e + ";").wish(0), due);
    }

    static String nine() {
        StringBuilder nine = new StringBuilder();
        for (int i = 0; i < 9; i++) {
            nine.append("thing ").append((char) ('a' + i)).append(' ').append(i).append(" 0 1 1 1;");
        }
        return nine.toString();
    }

    private static void lines() {
        says("A TEXT: { LINE ';' }.");
        good("", 0);
        good("shelf 3;", 1);
        good("shelf 3;child 1;", 2);
        Check.fault(";", 1, 0);
        Check.fault("shelf 3;;", 1, 8);
        Check.fault("shelf 3 child 1;", 1, 8);
        Check.fault("shelf 3;child 1", 1, 15);
        says("LINE: shelf N | thing W N N N N N { round | rough N | heart N | doubt N } | child E.");
        good("shelf 3;thing a 0 0 1 1 1;thing b 2 0 1 1 1 round rough 1 heart 1 doubt 1;child 1;", 4);
        good("child 1;thing a 0 0 1 1 1;shelf 3;", 3);
        Check.fault("shelf;", 1, 5);
        Check.fault("shelf 3 3;", 1, 8);
        Check.fault("thing 0 0 1 1 1;", 1, 6);
        Check.fault("thing a 0 0 1 1;", 1, 15);
        Check.fault("thing a 0 0 1 1 1 1;", 1, 18);
        Check.fault("thing a round 0 0 1 1 1;", 1, 8);
        Check.fault("thing a 0 0 1 1 1 round 1;", 1, 24);
        Check.fault("thing a 0 0 1 1 1 rough;", 1, 23);
        Check.fault("thing a 0 0 1 1 1 heart;", 1, 23);
        Check.fault("thing a 0 0 1 1 1 doubt;", 1, 23);
        Check.fault("child;", 1, 5);
        for (String word : new String[] {"round", "rough 1", "heart 1", "doubt 1", "weight", "not 1", "a", "1"}) {
            Check.fault(word + ";", 1, 0);
        }
    }

    private static void words() {
        says("Words: small letters in a row;");
        Check.fault("she lf 3;", 1, 0);
        Check.fault("Shelf 3;", 1, 0);
        Check.fault("SHELF 3;", 1, 0);
        Check.fault("thing aB 0 0 1 1 1;", 1, 7);
        Check.fault("thinga 0 0 1 1 1;", 1, 0);
        good("thing abzyz 0 0 1 1 1;", 1);
        says("W: one of 1 .. 6 letters, none of those of the language;");
        good("thing z 0 0 1 1 1;", 1);
        good("thing zzzzzz 0 0 1 1 1;", 1);
        Check.fault("thing 0 0 0 1 1 1;", 1, 6);
        Check.fault("thing zzzzzzz 0 0 1 1 1;", 1, 6);
        for (String word : Model.WORDS) {
            Check.fault("thing " + word + " 0 0 1 1 1;", 1, 6);
            good("thing " + word.substring(1) + " 0 0 1 1 1;", 1);
            good("thing " + word.substring(0, word.length() - 1) + " 0 0 1 1 1;", 1);
            if (word.length() < 6) {
                good("thing " + word + "s 0 0 1 1 1;", 1);
            }
        }
    }

    private static void numbersAndBlanks() {
        says("N: digits.");
        Check.due("zeros ahead", Check.of("shelf 007;").count(1), 7);
        Check.due("many zeros ahead", Check.of("shelf 00000000000000000000000000000040;").count(1), 40);
        Check.due("behind a word", Check.of("shelf8;").count(1), 8);
        Check.fault("shelf 1 0;", 1, 8);
        Check.fault("shelf 1a;", 1, 7);
        Check.fault("shelf +1;", 1, 6);
        Check.fault("shelf -1;", 1, 6);
        Check.fault("shelf 1.0;", 1, 7);
        Check.fault("shelf one;", 1, 6);
        says("Blanks 10, 32.");
        good("\n shelf\n3 \n;\n\n ", 1);
        good("child(1)and(2);", 1);
        for (char c = 0; c < 256; c++) {
            boolean isSign = c >= 'a' && c <= 'z' || c >= '0' && c <= '9' || ";()+-*/<=>".indexOf(c) >= 0;
            if (c == 10 || c == 32) {
                good("shelf" + c + "3;", 1);
            } else if (!isSign) {
                Check.fault("shelf" + c + "3;", 1, 5);
            }
        }
    }

    private static void orAndAnd() {
        says("E: A { or A }. A: B { and B }.");
        value("0 or 0 or 5", 1);
        value("1 and 1 and 0", 0);
        value("1 and 1 and 1", 1);
        value("1 or 0 and 0", 1);
        value("0 and 0 or 1", 1);
        value("(1 or 0) and 0", 0);
        value("0 and (0 or 1)", 0);
        Check.fault("child or 1;", 1, 6);
        Check.fault("child 1 or;", 1, 10);
        Check.fault("child 1 or or 1;", 1, 11);
        Check.fault("child and 1;", 1, 6);
        Check.fault("child 1 and;", 1, 11);
        Check.fault("child 1 and or 1;", 1, 12);
    }

    private static void notAndComparing() {
        says("B: not B | C.");
        value("not not not 7", 0);
        value("not 1 and 0", 0);
        value("not 0 or 1", 1);
        value("not 2 = 2", 0);
        value("not 0 = 2", 1);
        value("1 and not 0", 1);
        value("1 and not 1", 0);
        value("0 or not 0", 1);
        value("(not 0) + 1", 2);
        Check.fault("child not;", 1, 9);
        Check.fault("child 1 not 1;", 1, 8);
        Check.fault("child 1 not;", 1, 8);
        for (String sign : new String[] {"+", "-", "*", "/", "<", "<=", "=", "<>", ">=", ">"}) {
            Check.fault("child 1" + sign + "not 1;", 1, 7 + sign.length());
        }
        says("C: S [ ( < | <= | = | <> | >= | > ) S ].");
        String[] signs = {"<", "<=", "=", "<>", ">=", ">"};
        int[][] due = {{1, 0, 0}, {1, 1, 0}, {0, 1, 0}, {1, 0, 1}, {0, 1, 1}, {0, 0, 1}};
        for (int i = 0; i < signs.length; i++) {
            for (int a = 0; a < 3; a++) {
                value(a + " " + signs[i] + " 1", due[i][a]);
            }
            for (String second : signs) {
                Check.fault("child 1 " + signs[i] + " 2 " + second + " 3;", 1, 11 + signs[i].length());
            }
            Check.fault("child " + signs[i] + " 1;", 1, 6);
            Check.fault("child 1 " + signs[i] + ";", 1, 8 + signs[i].length());
        }
        value("(1 < 2) < 2", 1);
        value("2 < 1 + 2", 1);
        value("1 + 2 < 3", 0);
        value("1 < 2 and 2 < 3", 1);
    }

    private static void sumsAndSides() {
        says("S: T { ( + | - ) T }. T: P { ( * | / ) P }. P: N | NAME | '(' E ')';");
        value("10-4-3", 3);
        value("10-4+3", 9);
        value("10-(4+3)", 3);
        value("2+3*4", 14);
        value("2*3+4", 10);
        value("20-12/4", 17);
        value("24/4/3", 2);
        value("24/4*3", 18);
        value("24/(4*3)", 2);
        value("2*(3 or 0)", 2);
        value("weight*weight", 49);
        Check.fault("child ();", 1, 7);
        Check.fault("child (1;", 1, 8);
        Check.fault("child (1", 1, 8);
        Check.fault("child 1);", 1, 7);
        Check.fault("child (1));", 1, 9);
        Check.fault("child 1 2;", 1, 8);
        Check.fault("child 1 wide;", 1, 8);
        Check.fault("child 1(2);", 1, 7);
        Check.fault("child (1)2;", 1, 9);
        Check.fault("child -1;", 1, 6);
        Check.fault("child +1;", 1, 6);
        Check.fault("child 1*;", 1, 8);
        Check.fault("child 1+-1;", 1, 8);
        Check.fault("child 1*/2;", 1, 8);
    }

    private static void numbersAndNames() {
        says("N of E 0 .. 9999.");
        value("0", 0);
        value("9999", 9999);
        value("0009999", 9999);
        Check.fault("child 10000;", 2, 6);
        Check.fault("child 1+99999999999999999999;", 2, 8);
        Check.fault("child 18446744073709551617;", 2, 6);
        says("NAME: weight wide high left foot above load rough.");
        String[] names = {"weight", "wide", "high", "left", "foot", "above", "load", "rough"};
        int[] due = {7, 4, 2, 3, 0, 0, 7, 6};
        for (int i = 0; i < names.length; i++) {
            value(names[i], due[i]);
        }
        for (String word : new String[] {"round", "heart", "doubt", "shelf", "thing", "child", "a", "loads", "foo"}) {
            Check.fault("thing a 0 0 1 1 1;child " + word + ";", 1, 24);
        }
    }

    private static void signsOfTwo() {
        says("A = (or > behind <) right behind < or > belongs to it.");
        Check.due("<= is one", Check.of("child 2<=2;").count(2), 3);
        Check.due(">= is one", Check.of("child 2>=2;").count(2), 3);
        Check.due("<> is one", Check.of("child 2<>2;").count(2), 3);
        value("2<=2", 1);
        value("2>=2", 1);
        value("2<>2", 0);
        Check.fault("child 2< =2;", 1, 9);
        Check.fault("child 2> =2;", 1, 9);
        Check.fault("child 2<\n>2;", 1, 9);
        Check.fault("child 2=<2;", 1, 8);
        Check.fault("child 2=>2;", 1, 8);
        Check.fault("child 2><2;", 1, 8);
        Check.fault("child 2==2;", 1, 8);
        Check.fault("child 2<<2;", 1, 8);
        Check.fault("child 2>>2;", 1, 8);
        Check.fault("child 2<>=2;", 1, 9);
        Check.fault("child 2<=>2;", 1, 9);
        Check.fault("child 2>=>2;", 1, 9);
        Check.fault("child 2<", 1, 8);
    }

    private static void shelf() {
        says("shelf: it goes from 0 to N (1 .. 40; 20 without), places beyond are air.");
        Check.due("1", Check.of("shelf 1;").count(1), 1);
        Check.due("40", Check.of("shelf 40;").count(1), 40);
        Check.due("without", Check.of("thing a 0 0 1 1 1;").count(1), 20);
        Check.fault("shelf 0;", 2, 6);
        Check.fault("shelf 41;", 2, 6);
        Check.due("it ends at 3", Check.of("shelf 3;thing a 1 0 4 1 1;").edge(0, -1, 1), 6);
        Check.due("it ends at 20", Check.of("thing a 19 0 2 1 1 heart 0;").edge(0, -1, 1), 40);
        Check.due("air behind 3", Check.of("shelf 3;thing a 3 0 1 1 1;").bears(0, 2), 2);
        Check.due("air behind 20", Check.of("thing a 20 0 1 1 1;").bears(0, 2), 2);
        Check.due("up to 20", Check.of("thing a 19 0 1 1 1;").bears(0, 2), 0);
        Check.due("up to 40", Check.of("shelf 40;thing a 39 0 1 1 1;").bears(0, 2), 0);
        Check.due("from 0", Check.of("shelf 1;thing a 0 0 1 1 1;").edge(0, -1, 0), 0);
    }

    private static void things() {
        says("THINGS, at most 9, numbered as they come, with names of their own:");
        TinTower x = Check.of(nine());
        Check.due("nine", x.count(0), 9);
        for (int i = 0; i < 9; i++) {
            Check.due("named " + (char) ('a' + i), x.named(i + 1 << 25), i);
            Check.due("look(" + i + ", 0)", x.look(i, 0), i);
        }
        Check.fault(nine() + "thing j 9 0 1 1 1;", 2, 9 * 18);
        Check.fault("thing a 0 0 1 1 1;thing a 1 0 1 1 1;", 3, 24);
        TinTower y = Check.of("child 1;thing z 5 0 1 1 1;shelf 9;thing b 0 0 1 1 1;");
        Check.due("named z", y.named(Check.letters("z")), 0);
        Check.due("named b", y.named(Check.letters("b")), 1);
    }

    /** A thing with one of five numbers told in place of 0 0 1 1 1, and what look() tells of it, or its fault. */
    private static void measure(int which, String number, int due) {
        String[] numbers = {"0", "0", "1", "1", "1"};
        numbers[which] = number;
        String text = "thing a " + String.join(" ", numbers) + ";";
        if (due < 0) {
            Check.fault(text, 2, 8 + 2 * which);
        } else {
            Check.due(text + " look(0, " + which + ")", Check.of(text).look(0, which), due);
        }
    }

    private static void measures() {
        String[] told = {"LEFT 0 .. 39,", "FOOT 0 .. 39,", "WIDE 1 .. 12,", "HIGH 1 .. 12,", "WEIGHT 1 .. 99;"};
        int[] least = {0, 0, 1, 1, 1};
        int[] greatest = {39, 39, 12, 12, 99};
        for (int i = 0; i < told.length; i++) {
            says(told[i]);
            measure(i, String.valueOf(least[i]), least[i]);
            measure(i, String.valueOf(greatest[i]), greatest[i]);
            measure(i, String.valueOf(greatest[i] + 1), -1);
            measure(i, "4294967297", -1);
            measure(i, "18446744073709551617", -1);
            if (least[i] > 0) {
                measure(i, "0", -1);
            }
        }
    }

    private static void manner(String manners, int what, int due) {
        String text = "thing a 0 0 3 1 1 " + manners + ";";
        Check.due(text + " look(0, " + what + ")", Check.of(text).look(0, what), due);
    }

    private static void manners() {
        says("round;");
        manner("round", 5, 1);
        manner("", 5, 0);
        says("rough 0 .. 10 (5 without),");
        manner("rough 0", 6, 0);
        manner("rough 10", 6, 10);
        manner("", 6, 5);
        Check.fault("thing a 0 0 3 1 1 rough 11;", 2, 24);
        says("of which DOUBT 0 .. 5 (0);");
        manner("doubt 0", 7, 0);
        manner("doubt 5", 7, 5);
        manner("rough 9", 7, 0);
        Check.fault("thing a 0 0 3 1 1 doubt 6;", 2, 24);
        says("heart: where its weight is, 0 .. 2 WIDE halves from its left (its middle without);");
        manner("heart 0", 8, 0);
        manner("heart 6", 8, 6);
        manner("", 8, 3);
        Check.fault("thing a 0 0 3 1 1 heart 7;", 2, 24);
        Check.due("heart 2 of one that is 1 wide", Check.of("thing a 0 0 1 1 1 heart 2;").look(0, 8), 2);
        Check.fault("thing a 0 0 1 1 1 heart 3;", 2, 24);
        Check.due("heart 24 of one that is 12 wide", Check.of("thing a 0 0 12 1 1 heart 24;").look(0, 8), 24);
        Check.fault("thing a 0 0 12 1 1 heart 25;", 2, 25);
        Check.due("its moment", Check.of("thing a 5 0 3 1 2 heart 4;").bears(0, 1), 2 * 27720 * 14);
        Check.due("its moment at the middle", Check.of("thing a 5 0 3 1 2;").bears(0, 1), 2 * 27720 * 13);
    }

    /** All four in each of the 24 orders. */
    private static void mannersInOrder() {
        says("each once at most, in whatever order.");
        String[] manners = {"round", "rough 8", "heart 1", "doubt 4"};
        int[] places = {5, 6, 8, 7};
        int[] due = {1, 8, 1, 4};
        for (int order = 0; order < 256; order++) {
            StringBuilder all = new StringBuilder();
            int seen = 0;
            for (int i = 0; i < 8; i += 2) {
                all.append(i == 0 ? "" : " ").append(manners[order >> i & 3]);
                seen |= 1 << (order >> i & 3);
            }
            if (seen == 15) {
                for (int i = 0; i < 4; i++) {
                    manner(all.toString(), places[i], due[i]);
                }
            } else {
                Check.due("text with " + all, Check.read(new TinTower(), "thing a 0 0 3 1 1 " + all + ";"), -1);
            }
        }
    }

    private static void takenUp() {
        says("A THING takes up what is between LEFT and LEFT and WIDE, FOOT and FOOT and HIGH;");
        good("thing a 2 2 2 2 1;thing b 4 2 1 2 1;thing c 0 2 2 1 1;thing d 2 4 2 1 1;thing e 2 0 2 2 1;", 5);
        Check.fault("thing a 2 2 2 2 1;thing b 3 2 1 2 1;", 4, 24);
        Check.fault("thing a 2 2 2 2 1;thing b 0 2 3 1 1;", 4, 24);
        Check.fault("thing a 2 2 2 2 1;thing b 2 3 2 1 1;", 4, 24);
        Check.fault("thing a 2 2 2 2 1;thing b 2 0 2 3 1;", 4, 24);
        says("none may take up any of another one's (also round ones).");
        Check.fault("thing a 2 2 1 1 1;thing b 0 0 9 9 1;", 4, 24);
        Check.fault("thing a 0 0 9 9 1;thing b 2 2 1 1 1;", 4, 24);
        Check.fault("thing a 0 0 4 4 1 round;thing b 3 3 2 2 1 round;", 4, 30);
        Check.fault("thing a 0 0 4 4 1;thing b 3 3 2 2 1 round;", 4, 24);
        good("thing a 0 0 4 4 1 round;thing b 4 4 2 2 1 round;", 2);
    }

    private static void faultsInOrder() {
        says("FAULTS, the first along the text (of one place the least), with its place:");
        Check.fault("shelf 41;thing a 99 0 1 1 1;!", 2, 6);
        Check.fault("!;shelf 41;", 1, 0);
        Check.fault("shelf 3;shelf 41;", 3, 8);
        Check.fault("shelf 41;shelf 3;", 2, 6);
        Check.fault("child 1 10000;", 1, 8);
        Check.fault("thing a 0 0 1 1 1 99;", 1, 18);
        Check.fault(nine() + "thing thing", 2, 9 * 18);
        Check.fault("thing a 0 0 1 1 1;thing a 0 0 1 1 1;", 3, 24);
    }

    private static void faultOne() {
        says("1 a TOKEN that is none (a word of more than 6 letters, too)");
        Check.fault("#", 1, 0);
        Check.fault("shelf #;", 1, 6);
        Check.fault("child 1 & 1;", 1, 8);
        Check.fault("shelf 3;weights", 1, 8);
        Check.fault("thing abcdefg", 1, 6);
        Check.fault("child weightt;", 1, 6);
        Check.fault("thing a 0 0 1 1 1 roundround;", 1, 18);
        for (String word : new String[] {"shelf", "thing", "child", "or", "and", "not", "weight", "wide", "high", "left",
            "foot", "above", "load", "smooth"}) {
            Check.fault("thing a 0 0 1 1 1 " + word + ";", 1, 18);
            Check.fault("thing a 0 0 1 1 1 " + word + " 1;", 1, 18);
        }
        says("or can't stand there (the length, if more must come).");
        Check.fault("shelf thing", 1, 6);
        Check.fault("shelf", 1, 5);
        Check.fault("shelf  \n", 1, 8);
        Check.fault("shelf 3", 1, 7);
        Check.fault("thing", 1, 5);
        Check.fault("thing a", 1, 7);
        Check.fault("thing a 0 0 1 1", 1, 15);
        Check.fault("thing a 0 0 1 1 1 ", 1, 18);
        Check.fault("thing a 0 0 1 1 1 rough", 1, 23);
        Check.fault("child", 1, 5);
        Check.fault("child 1+", 1, 8);
        Check.fault("child not ", 1, 10);
        Check.fault("child 1", 1, 7);
    }

    private static void faultTwo() {
        says("2 too much (at it): a number beyond what is said,");
        Check.fault("shelf  41 ;", 2, 7);
        Check.fault("child 1 + 10000;", 2, 10);
        Check.fault("thing a 0 0 0 1 1;", 2, 12);
        says("a tenth thing (at the word of the LINE),");
        Check.fault(nine() + " thing j 9 0 1 1 1;", 2, 9 * 18 + 1);
        Check.fault(nine() + "shelf 3;thing", 2, 9 * 18 + 8);
        Check.fault(nine() + "thing a", 2, 9 * 18);
        says("a ninth '(' open,");
        good("child ((((((((1))))))));", 1);
        good("child ((((((((1))))))))+((((((((2))))))));", 1);
        good("child ((((((((1)+(2))))))));", 1);
        Check.fault("child (((((((((1)))))))));", 2, 14);
        Check.fault("child ((((((((1)+((2))))))));", 2, 18);
        Check.fault("child ((((((((1((", 1, 15);
    }

    private static void faultTwoKnots() {
        says("a 65th KNOT (N, NAMES, signs but ( and ), not, and, or in E: one each).");
        String[] knots = {"5", "weight", "rough", "(7)", "((7))", "not 1", "1 and 1", "1 or 1", "1+1", "1-1", "1*1",
            "1/1", "1<1", "1<=1", "1=1", "1<>1", "1>=1", "1>1", "not 1<=(2)"};
        int[] due = {1, 1, 1, 1, 1, 2, 3, 3, 3, 3, 3, 3, 3, 3, 3, 3, 3, 3, 4};
        for (int i = 0; i < knots.length; i++) {
            Check.due("knots of " + knots[i], Check.of("child " + knots[i] + ";").count(2), due[i]);
        }
        StringBuilder sum = new StringBuilder("1");
        for (int i = 0; i < 31; i++) {
            sum.append("+1");
        }
        Check.due("63", Check.of("child " + sum + ";").count(2), 63);
        Check.due("64", Check.of("child not " + sum + ";").count(2), 64);
        Check.due("64 and brackets", Check.of("child not ((" + sum + "));").count(2), 64);
        Check.fault("child " + sum + "+1;", 2, 6 + 64);
        Check.fault("child " + sum + "+wide;", 2, 6 + 64);
        Check.fault("child not " + sum + "+1;", 2, 10 + 63);
        Check.fault("child not " + sum + "<=1;", 2, 10 + 63);
        Check.fault("child not " + sum + " and 1;", 2, 10 + 64);
        Check.fault("child not " + sum + " or 1;", 2, 10 + 64);
        Check.fault("child " + sum + " and not 1;", 2, 6 + 68);
        Check.fault("child not not " + sum + ";", 2, 14 + 62);
        Check.fault("child not " + sum + " not", 1, 10 + 64);
        StringBuilder nots = new StringBuilder("child");
        for (int i = 0; i < 63; i++) {
            nots.append(" not");
        }
        Check.due("63 nots", Check.of(nots + " 3;").count(2), 64);
        Check.fault(nots + " not 3;", 2, 5 + 4 * 64 + 1);
    }

    private static void faultThree() {
        says("3 told already: a name (at W), shelf, child, round, rough, heart, doubt (at the word).");
        Check.fault("thing a 0 0 1 1 1;thing  a 9 0 1 1 1;", 3, 25);
        Check.fault("thing ab 0 0 1 1 1;thing b 9 0 1 1 1;thing ab", 3, 43);
        good("thing ab 0 0 1 1 1;thing a 9 0 1 1 1;thing b 5 0 1 1 1;thing ba 3 0 1 1 1;", 4);
        Check.fault("shelf 3;child 1; shelf 4;", 3, 17);
        Check.fault("child 1;shelf 3;child 2;", 3, 16);
        String[] manners = {"round", "rough 1", "heart 1", "doubt 1"};
        for (String manner : manners) {
            for (String other : manners) {
                String text = "thing a 0 0 1 1 1 " + manner + (other.equals(manner) ? " " : " " + other + " ");
                Check.fault(text + manner + ";", 3, text.length());
                Check.fault(text + manner.substring(0, 5), 3, text.length());
            }
        }
    }

    private static void faultFour() {
        says("4 a THING that takes up some of another one's (at its name; asked at its ;).");
        Check.fault("thing a 0 0 1 1 1;thing  bcd 0 0 1 1 1 round ;", 4, 25);
        Check.fault("thing a 0 0 1 1 1;thing b 0 0 1 1 1;!", 4, 24);
        Check.fault("thing a 0 0 1 1 1;thing b 0 0 1 1 1", 1, 35);
        Check.fault("thing a 0 0 1 1 1;thing b 0 0 1 1 1!", 1, 35);
        Check.fault("thing a 0 0 1 1 1;thing b 0 0 1 1 1 9;", 1, 36);
        Check.fault("thing a 0 0 1 1 1;thing b 0 0 1 1 1 rough 11;", 2, 42);
        Check.fault("thing a 0 0 1 1 1;thing b 0 0 1 1 1 round round;", 3, 42);
        Check.fault("thing a 0 0 1 1 1;thing b 2 0 1 1 1;thing c 1 0 2 1 1;", 4, 42);
    }
}
