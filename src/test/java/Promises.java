import java.util.NoSuchElementException;

/** The promises, each sentence of them. */
final class Promises {
    private static final String THREE = "thing a 0 0 2 3 1;thing b 0 3 2 2 1;thing c 0 5 2 1 1;";
    private static final String WINDOW = "shelf 10;thing a 0 0 4 2 5;thing b 6 0 4 2 5;thing c 2 2 6 1 3;"
            + "thing r 8 2 2 2 1 round;thing d 8 4 2 1 1;";
    private static final long UNIT = 27720;
    private static final int MIN = Integer.MIN_VALUE;
    private static final int MAX = Integer.MAX_VALUE;

    private Promises() {
    }

    static void run() {
        newObject();
        feed();
        text();
        textTellsAnew();
        textWithAFault();
        textNotSoMany();
        fault();
        named();
        look();
        edge();
        above();
        there();
        bears();
        stands();
        falls();
        PromisesOfOrders.run();
        PromisesOfShapes.run();
        PromisesOfChanges.run();
    }

    /** 1 IndexOutOfBoundsException, 2 NoSuchElementException, 0 nothing. */
    static int thrown(TinTower x, int thing, int what) {
        try {
            x.look(thing, what);
            return 0;
        } catch (IndexOutOfBoundsException e) {
            return 1;
        } catch (NoSuchElementException e) {
            return 2;
        }
    }

    private static void newObject() {
        Doc.says("P1", "A TEXT without LINES;");
        TinTower x = new TinTower();
        int[] counts = {0, 20, 0, 0, 0, 0, 0};
        for (int what = 0; what < counts.length; what++) {
            Check.due("count(" + what + ")", x.count(what), counts[what]);
        }
        Check.due("there()", x.there(), 0);
        Check.due("fault(0)", x.fault(0), 0);
        Check.due("fault(1)", x.fault(1), -1);
        Check.due("named(a)", x.named(1 << 25), -1);
        Check.due("look(0, 0)", thrown(x, 0, 0), 1);
        Check.due("edge(0, -1, 0)", x.edge(0, -1, 0), -1);
        Check.due("above(0)", x.above(0), -1);
        Check.due("bears(0, 0)", x.bears(0, 0), -1);
        Check.due("stands(0, 0, 0)", x.stands(0, 0, 0), 1);
        Check.due("stands(1, 0, 0)", x.stands(1, 0, 0), -1);
        Check.due("falls(0, 0)", x.falls(0, 0), 0);
        Check.due("falls(1, 0)", x.falls(1, 0), -1);
        Check.due("may()", x.may(), 0);
        Check.due("down(1, 0)", x.down(1, 0), 1);
        Check.due("down(2, 0)", x.down(2, 0), 1);
        Check.due("down(1, 1)", x.down(1, 1), -1);
        Check.due("judge(0, 0)", x.judge(0, 0), 0);
        Check.due("judge(1, 0)", x.judge(1, 0), 0);
        Check.due("most(0)", x.most(0), -1);
        Check.due("push(0, 0, 0)", x.push(0, 0, 0), -1);
        Check.due("hands(0, false, 0)", x.hands(0, false, 0), -1);
        Check.due("pulled(0)", x.pulled(0), -1);
        Check.due("drops(0, 1)", x.drops(0, 1), -1);
        Check.due("hangs(0)", x.hangs(0), -1);
        Check.due("highest(0, 0)", x.highest(0, 0), 0);
        Check.due("highest(1, 0)", x.highest(1, 0), -1);
        Check.due("over(0, 1, -1)", x.over(0, 1, -1), -1);
        Check.due("child()", x.child(), -1);
        Check.due("wish(0)", x.wish(0), Long.MIN_VALUE);
        Check.due("spree(9)", x.spree(9), 0);
        Check.due("take(0)", x.take(0), -1);
        Check.due("pull(0)", x.pull(0), -1);
        Check.due("move(0, 1)", x.move(0, 1), -1);
        Check.due("undo()", x.undo(), -1);
        Check.due("back()", x.back(), -1);
        Check.due("keep()", x.keep(), 0);
        Check.due("back() then", x.back(), 0);
        Doc.says("P1", "an empty TAPE.");
        Check.due("text(1)", new TinTower().text(1), -2);
        Check.due("text(0)", new TinTower().text(0), 0);
        Check.due("feed", new TinTower().feed(0, 0, 0, 0, 0), 20);
    }

    private static void feed() {
        Doc.says("P2", "Twenty bytes come behind the TAPE, four of each number, the highest first: how many it has;");
        TinTower x = new TinTower();
        // "child 123456"-like: every byte has a place of its own.
        Check.due("feed", x.feed(0x6368696c, 0x6420312b, 0x322b332b, 0x342b352b, 0x362b372b), 20);
        Check.due("feed", x.feed(0x303b7368, 0x656c6620, 0x37203b74, 0x68696e67, 0x20612033), 40);
        Check.due("feed", x.feed(0x20302031, 0x20312031, 0x3b202020, 0, -1), 60);
        Check.due("text(52)", x.text(52), 3);
        Check.due("wish(0)", x.wish(0), 28);
        Check.due("count(1)", x.count(1), 7);
        Check.due("look(0, 0)", x.look(0, 0), 3);
        Check.due("feed", x.feed(0x20202080, 0, 0, 0, 0), 20);
        Check.due("text(4)", x.text(4), -1);
        Check.due("the byte 128", x.fault(1), 3);
        Doc.says("P2", "NONE, and none come, if it would have more than 600.");
        TinTower y = new TinTower();
        int blanks = 0x20202020;
        for (int i = 1; i < 30; i++) {
            Check.due("feed " + i, y.feed(blanks, blanks, blanks, blanks, blanks), 20 * i);
        }
        Check.due("feed 30", y.feed(blanks, blanks, blanks, 0x7368656c, 0x6620373b), 600);
        Check.due("feed 31", y.feed(0x21212121, 0, 0, 0, 0), -1);
        Check.due("feed 32", y.feed(0x21212121, 0, 0, 0, 0), -1);
        Check.due("text(601)", y.text(601), -2);
        Check.due("text(600)", y.text(600), 1);
        Check.due("count(1)", y.count(1), 7);
        Check.due("feed behind text", y.feed(0, 0, 0, 0, 0), 20);
        // As many tokens as bytes, and a token of as many bytes.
        TinTower z = new TinTower();
        Check.due("600 signs", Check.read(z, ";".repeat(600)), -1);
        Check.due("600 signs, the place", z.fault(1), 0);
        Check.due("600 brackets", Check.read(z, "child " + "(".repeat(594)), -1);
        Check.due("600 brackets, the place", z.fault(1), 14);
        Check.due("600 letters", Check.read(z, "a".repeat(600)), -1);
        Check.due("600 letters, the place", z.fault(1), 0);
        Check.due("600 digits", Check.read(z, "shelf " + "0".repeat(592) + "9;"), 1);
        Check.due("600 digits, the shelf", z.count(1), 9);
    }

    private static void text() {
        Doc.says("P3", "The TAPE's first n bytes (it is empty then) are the TEXT");
        TinTower x = new TinTower();
        Check.feed(x, "shelf 9;shelf 8;thing");
        Check.due("text(8)", x.text(8), 1);
        Check.due("count(1)", x.count(1), 9);
        Check.due("text(1): it is empty then", x.text(1), -2);
        Check.due("feed then", x.feed(0, 0, 0, 0, 0), 20);
        Check.feed(new TinTower(), "");
        TinTower y = new TinTower();
        Check.feed(y, "shelf 12;");
        Check.due("text(7): its end cuts a number", y.text(7), -1);
        Check.due("the length of the TEXT", y.fault(1), 7);
        Check.due("text(1): it is empty with a FAULT, too", y.text(1), -2);
        Check.feed(y, "shelf 12;");
        Check.due("text(0)", y.text(0), 0);
        Check.due("text(1): it is empty behind nothing, too", y.text(1), -2);
        Doc.says("P3", "how many LINES;");
        Check.due("none", Check.read(y, ""), 0);
        Check.due("blanks", Check.read(y, " \n "), 0);
        Check.due("three", Check.read(y, "shelf 5;\n thing a 0 0 1 1 1 ; child 1;  "), 3);
        Check.due("eleven", Check.read(y, TermsOne.nine() + "child 1;shelf 3;"), 11);
    }

    private static void textTellsAnew() {
        Doc.says("P3", "(all THINGS are there as told, no IMAGE, nothing to undo then):");
        TinTower x = Check.of("shelf 9;thing a 0 0 2 2 1 round;thing b 0 2 2 2 1 heart 1 doubt 3 rough 9;child 1+2;");
        x.keep();
        x.take(0);
        x.down(1, 0);
        x.down(2, 0);
        Check.due("text", Check.read(x, "thing b 7 0 3 2 1;thing c 0 5 1 1 1;"), 2);
        Check.due("there(): what hangs, too", x.there(), 3);
        Check.due("undo()", x.undo(), -1);
        Check.due("back()", x.back(), -1);
        int[] counts = {2, 20, 0, 2, 2, 0, 6};
        for (int what = 0; what < counts.length; what++) {
            Check.due("count(" + what + ")", x.count(what), counts[what]);
        }
        Check.due("wish(0)", x.wish(0), Long.MIN_VALUE);
        Check.due("down(1, 0)", x.down(1, 0), 1);
        Check.due("down(1, 1)", x.down(1, 1), 1);
        Check.due("named a", x.named(1 << 25), -1);
        // Of the texts ahead nothing is left, be they read or not.
        for (int i = 0; i < 4; i++) {
            if (i % 2 == 1) {
                Check.due("a fault", Check.read(x, "shelf 3;thing q 0 0 1 1 1 round doubt 2 heart 0 rough 1;child ((1+not"), -1);
            }
            Check.due("text", Check.read(x, "thing a 3 0 4 1 1;"), 1);
            int[] due = {3, 0, 4, 1, 1, 0, 5, 0, 10, 1};
            for (int what = 0; what < due.length; what++) {
                Check.due("look(0, " + what + ")", x.look(0, what), due[what]);
            }
            Check.due("count(1)", x.count(1), 20);
            Check.due("count(2)", x.count(2), 0);
            Check.due("a child and a shelf", Check.read(x, "shelf 30;child ((((((((1))))))))+2*3;thing r 0 0 2 2 1 round;"), 3);
            Check.due("wish(0)", x.wish(0), 7);
            Check.due("count(2)", x.count(2), 5);
        }
        textsWithoutEnd(x);
    }

    /** However many knots and open brackets have been ahead, a text has all of its own. */
    private static void textsWithoutEnd(TinTower x) {
        String sum = "1";
        for (int i = 0; i < 31; i++) {
            sum += "+1";
        }
        for (int i = 0; i < 20; i++) {
            Check.due("brackets without end", Check.read(x, "child 1+((((((((1+not"), -1);
        }
        for (int i = 0; i < 3; i++) {
            Check.due("64 knots", Check.read(x, "thing a 0 0 1 1 1;child not (" + sum + ");"), 2);
            Check.due("wish(0)", x.wish(0), 0);
            Check.due("64 knots, deep", Check.read(x, "thing a 0 0 1 1 1;child not 0*(1-(2-(3-(4-(5-(6-(7-(8))))))))+" + sum.substring(38) + ";"), 2);
            Check.due("wish(0)", x.wish(0), 0);
        }
    }

    private static void textWithAFault() {
        Doc.says("P3", "NONE with a FAULT, all else stays;");
        TinTower x = Check.of("shelf 9;thing a 0 0 2 2 1;thing b 0 2 2 2 1;child 1+1;");
        x.keep();
        Check.due("take(1)", x.take(1), 1);
        Check.due("down(1, 1)", x.down(1, 1), 0);
        Check.due("text", Check.read(x, "shelf 5;thing z 9 0 1 1 1;child 2;thing z"), -1);
        Check.due("there()", x.there(), 1);
        int[] counts = {2, 9, 3, 1, 1, 1, 2};
        for (int what = 0; what < counts.length; what++) {
            Check.due("count(" + what + ")", x.count(what), counts[what]);
        }
        Check.due("wish(0)", x.wish(0), 2);
        Check.due("named z", x.named(26 << 25), -1);
        Check.due("down(1, 1)", x.down(1, 1), 0);
        Check.due("undo()", x.undo(), 0);
        Check.due("there() behind undo", x.there(), 3);
        Check.due("back()", x.back(), 3);
        Check.due("down(1, 1)", x.down(1, 1), 1);
    }

    private static void textNotSoMany() {
        Doc.says("P3", "-2, and the TAPE stays: there are not so many, n is below 0.");
        TinTower x = new TinTower();
        Check.due("text(1) of nothing", x.text(1), -2);
        Check.feed(x, "shelf 9;");
        Check.due("text(21)", x.text(21), -2);
        Check.due("text(MAX)", x.text(MAX), -2);
        Check.due("text(-1)", x.text(-1), -2);
        Check.due("text(MIN)", x.text(MIN), -2);
        Check.due("feed behind them", x.feed(0x20202020, 0x20202020, 0x20202020, 0x20202020, 0x20202020), 40);
        Check.due("text(41)", x.text(41), -2);
        Check.due("text(40)", x.text(40), 1);
        Check.due("count(1)", x.count(1), 9);
    }

    private static void fault() {
        Doc.says("P4", "Of the latest text() that was not -2, what 0: its FAULT (0), 1: its place (NONE without).");
        TinTower x = new TinTower();
        Check.due("fault(0) of none", x.fault(0), 0);
        Check.due("fault(1) of none", x.fault(1), -1);
        String[] texts = {"shelf 41;", "shelf a;", "shelf 3;shelf", "thing a 0 0 1 1 1;thing b 0 0 1 1 1;", "shelf 40;", "!"};
        int[] faults = {2, 1, 3, 4, 0, 1};
        int[] places = {6, 6, 8, 24, -1, 0};
        for (int i = 0; i < texts.length; i++) {
            Check.read(x, texts[i]);
            Check.due("fault(0) of " + texts[i], x.fault(0), faults[i]);
            Check.due("fault(1) of " + texts[i], x.fault(1), places[i]);
            x.text(1);
            x.text(-1);
            Check.due("fault(0) behind -2", x.fault(0), faults[i]);
            Check.due("fault(1) behind -2", x.fault(1), places[i]);
        }
        Doc.says("P4", "NONE for another what.");
        for (int what : new int[] {2, 3, -1, -2, MIN, MAX}) {
            Check.due("fault(" + what + ")", x.fault(what), -1);
        }
    }

    private static void named() {
        Doc.says("P5", "The number of a THING by its letters, 5 bits each (a is 1; the first one highest of six, 0 behind the last one);");
        TinTower x = Check.of("thing a 0 0 1 1 1;thing ab 1 0 1 1 1;thing abcdef 2 0 1 1 1;thing zzzzzz 3 0 1 1 1;thing z 4 0 1 1 1;");
        Check.due("a", x.named(1 << 25), 0);
        Check.due("ab", x.named(1 << 25 | 2 << 20), 1);
        Check.due("abcdef", x.named(1 << 25 | 2 << 20 | 3 << 15 | 4 << 10 | 5 << 5 | 6), 2);
        Check.due("zzzzzz", x.named(26 << 25 | 26 << 20 | 26 << 15 | 26 << 10 | 26 << 5 | 26), 3);
        Check.due("z", x.named(26 << 25), 4);
        x.take(1);
        Check.due("ab, gone", x.named(1 << 25 | 2 << 20), 1);
        Doc.says("P5", "NONE: there is none such.");
        int[] none = {0, 1, -1, MIN, MAX, 2 << 25, 1, 1 << 20, 1 << 25 | 1, 1 << 25 | 3 << 20, 1 << 30 | 1 << 25, MIN | 1 << 25,
            1 << 25 | 2 << 20 | 3 << 15 | 4 << 10 | 5 << 5 | 7, 1 << 25 | 2 << 20 | 3 << 15 | 4 << 10 | 5 << 5};
        for (int letters : none) {
            Check.due("named(" + letters + ")", x.named(letters), -1);
        }
    }

    private static void look() {
        Doc.says("P6", "Of a THING, what 0 LEFT, 1 FOOT (both now), 2 WIDE, 3 HIGH, 4 WEIGHT, 5 round (1, 0), 6 rough, 7 DOUBT, "
                + "8 its heart's place (HALVES), 9 whether it is there.");
        TinTower x = Check.of("shelf 9;thing a 1 0 3 2 7 round;thing b 1 2 4 5 6 rough 8 doubt 3 heart 3;thing c 6 0 1 1 1;");
        int[][] due = {{1, 0, 3, 2, 7, 1, 5, 0, 5, 1}, {1, 2, 4, 5, 6, 0, 8, 3, 5, 1}, {6, 0, 1, 1, 1, 0, 5, 0, 13, 1}};
        for (int t = 0; t < 3; t++) {
            for (int what = 0; what < 10; what++) {
                Check.due("look(" + t + ", " + what + ")", x.look(t, what), due[t][what]);
            }
        }
        x.move(2, 2);
        Check.due("LEFT now", x.look(2, 0), 8);
        Check.due("the heart now", x.look(2, 8), 17);
        x.pull(0);
        Check.due("FOOT now", x.look(1, 1), 0);
        Check.due("whether it is there", x.look(0, 9), 0);
        Check.due("WEIGHT of one that isn't there", x.look(0, 4), 7);
        Doc.says("P6", "IndexOutOfBoundsException: no such THING.");
        for (int thing : new int[] {3, 4, 9, -1, MIN, MAX}) {
            Check.due("look(" + thing + ", 0)", thrown(x, thing, 0), 1);
        }
        Check.due("look(0, 0) of one that isn't there", thrown(x, 0, 0), 0);
        Doc.says("P6", "NoSuchElementException: no such what.");
        for (int what : new int[] {10, 11, -1, MIN, MAX}) {
            Check.due("look(2, " + what + ")", thrown(x, 2, what), 2);
            Check.due("look(0, " + what + ") of one that isn't there", thrown(x, 0, what), 2);
        }
    }

    private static void edge() {
        Doc.says("P7", "The EDGE on which a THING stands on another one (both there; NONE: on the SHELF), what 0: a, 1: b.");
        TinTower x = Check.of(WINDOW);
        int[][] edges = {{0, -1, 0, 8}, {1, -1, 12, 20}, {2, 0, 4, 8}, {2, 1, 12, 16}, {3, 1, 18, 18}, {4, 3, 18, 18}};
        for (int[] e : edges) {
            Check.due("edge(" + e[0] + ", " + e[1] + ", 0)", x.edge(e[0], e[1], 0), e[2]);
            Check.due("edge(" + e[0] + ", " + e[1] + ", 1)", x.edge(e[0], e[1], 1), e[3]);
        }
        x.move(2, -1);
        Check.due("moved", x.edge(2, 0, 0), 2);
        x.pull(1);
        Check.due("pulled out", x.edge(3, -1, 0), 18);
        x.undo();
        Doc.says("P7", "-2: none;");
        int[][] none = {{2, -1}, {0, 2}, {4, 1}, {2, 3}, {0, 1}, {3, -1}};
        for (int[] n : none) {
            Check.due("edge(" + n[0] + ", " + n[1] + ", 0)", x.edge(n[0], n[1], 0), -2);
            Check.due("edge(" + n[0] + ", " + n[1] + ", 1)", x.edge(n[0], n[1], 1), -2);
        }
        Doc.says("P7", "NONE: no such ones, not there.");
        int[][] wrong = {{5, 0, 0}, {-1, 0, 0}, {-1, -1, 0}, {0, 5, 0}, {0, -2, 0}, {0, MIN, 0}, {MAX, MAX, 0}, {2, 2, 0},
            {2, 0, 2}, {2, 0, -1}, {0, -1, 2}, {9, -1, 0}, {0, 9, 0}, {10, 10, 0}, {32, 33, 0}};
        for (int[] w : wrong) {
            Check.due("edge(" + w[0] + ", " + w[1] + ", " + w[2] + ")", x.edge(w[0], w[1], w[2]), -1);
        }
        x.take(4);
        Check.due("edge(4, 3, 0), gone", x.edge(4, 3, 0), -1);
        Check.due("edge(4, -1, 0), gone", x.edge(4, -1, 0), -1);
        Check.due("edge(3, 4, 0), gone", x.edge(3, 4, 0), -1);
    }

    private static void above() {
        Doc.says("P8", "THINGS (bits) that stand on a THING that is there;");
        TinTower x = Check.of(WINDOW);
        int[] due = {4, 12, 0, 16, 0};
        for (int t = 0; t < due.length; t++) {
            Check.due("above(" + t + ")", x.above(t), due[t]);
        }
        x.take(4);
        Check.due("above(3) without 4", x.above(3), 0);
        TinTower y = Check.of("thing c 0 1 2 1 1;thing a 0 0 2 1 1;thing b 2 0 2 1 1;");
        Check.due("above(1)", y.above(1), 1);
        Check.due("above(2)", y.above(2), 0);
        Doc.says("P8", "NONE: no such one.");
        for (int thing : new int[] {5, 9, 32, -1, MIN, MAX, 4}) {
            Check.due("above(" + thing + ")", x.above(thing), -1);
        }
    }

    private static void there() {
        Doc.says("P9", "THINGS that are there (bits).");
        TinTower x = Check.of(WINDOW);
        Check.due("all", x.there(), 31);
        x.take(3);
        Check.due("behind take(3)", x.there(), 7);
        Check.due("nine", Check.of(TermsOne.nine()).there(), 511);
        Check.due("none", new TinTower().there(), 0);
    }

    private static void bears() {
        Doc.says("P10", "BEARING of what is there, of a THING, what 0: LOAD, 1: MOMENT, 2: whether it FALLS (1 TIPS, 2 HANGS; 0).");
        TinTower x = Check.of("thing a 0 0 2 1 5;thing b 1 1 4 1 3;thing c 9 3 1 1 2;thing d 1 2 1 1 1;");
        long[] loads = {5, 4, 2, 1};
        long[] moments = {10, 21, 38, 3};
        long[] fates = {0, 1, 2, 0};
        for (int t = 0; t < 4; t++) {
            Check.due("bears(" + t + ", 0)", x.bears(t, 0), loads[t] * UNIT);
            Check.due("bears(" + t + ", 1)", x.bears(t, 1), moments[t] * UNIT);
            Check.due("bears(" + t + ", 2)", x.bears(t, 2), fates[t]);
        }
        // The greatest: nine of 99 one upon the other, far to the right.
        StringBuilder tower = new StringBuilder("shelf 40;");
        for (int i = 0; i < 9; i++) {
            tower.append("thing ").append((char) ('a' + i)).append(" 39 ").append(i).append(" 1 1 99;");
        }
        Check.due("the greatest", Check.of(tower.toString()).bears(0, 1), 9 * 99 * 79 * UNIT);
        x.take(3);
        Check.due("of what is there", x.bears(0, 0), 5 * UNIT);
        Doc.says("P10", "-2: no such what;");
        for (int what : new int[] {3, 4, -1, MIN, MAX}) {
            Check.due("bears(0, " + what + ")", x.bears(0, what), -2);
        }
        Doc.says("P10", "NONE: no such THING there.");
        for (int thing : new int[] {1, 2, 3, 4, 9, 32, -1, MIN, MAX}) {
            for (int what : new int[] {0, 1, 2, 3, -1}) {
                Check.due("bears(" + thing + ", " + what + ")", x.bears(thing, what), -1);
            }
        }
    }

    private static void stands() {
        Doc.says("P11", "Whether a set (bits) STANDS with some HELD, some WEDGED (1, 0);");
        TinTower x = Check.of("shelf 4;thing a 3 0 3 1 1;thing b 9 4 1 1 1;");
        int[][] due = {{0, 0, 0, 1}, {1, 0, 0, 0}, {1, 1, 0, 1}, {1, 0, 1, 1}, {1, 2, 2, 0}, {2, 2, 0, 1}, {2, 0, 2, 0},
            {3, 2, 1, 1}, {3, 3, 0, 1}, {3, 1, 2, 0}, {0, 3, 3, 1}};
        for (int[] d : due) {
            Check.due("stands(" + d[0] + ", " + d[1] + ", " + d[2] + ")", x.stands(d[0], d[1], d[2]), d[3]);
        }
        x.take(1);
        Check.due("stands() of those gone", x.stands(3, 2, 1), 1);
        Doc.says("P11", "NONE: bits of no THINGS.");
        for (int set : new int[] {4, 5, 512, -1, MIN, MAX}) {
            Check.due("stands(" + set + ", 0, 0)", x.stands(set, 0, 0), -1);
            Check.due("stands(0, " + set + ", 0)", x.stands(0, set, 0), -1);
            Check.due("stands(0, 0, " + set + ")", x.stands(0, 0, set), -1);
        }
        Check.due("stands(511, 0, 0) of nine", Check.of(TermsOne.nine()).stands(511, 511, 511), 1);
        Check.due("stands(512, 0, 0) of nine", Check.of(TermsOne.nine()).stands(512, 0, 0), -1);
    }

    private static void falls() {
        Doc.says("P12", "WHAT FALLS of a set, what 0: all (bits), 1: how many ROUNDS, 2 and on: ROUND what less 2 (0 beyond).");
        TinTower x = Check.of("thing a 0 0 2 2 1;thing b 0 2 2 2 1;thing c 0 4 2 2 1;thing d 5 0 1 1 1;thing e 0 6 1 1 1;");
        int[][] due = {{31, 0, 0, 0, 0}, {30, 22, 3, 2, 4, 16, 0, 0}, {29, 20, 2, 4, 16, 0}, {28, 20, 2, 4, 16, 0},
            {26, 18, 1, 18, 0}, {0, 0, 0, 0}};
        for (int[] d : due) {
            for (int what = 0; what < d.length - 1; what++) {
                Check.due("falls(" + d[0] + ", " + what + ")", x.falls(d[0], what), d[what + 1]);
            }
        }
        Check.due("falls(30, MAX)", x.falls(30, MAX), 0);
        Check.due("falls(30, 12)", x.falls(30, 12), 0);
        Check.due("it takes nothing", x.there(), 31);
        Doc.says("P12", "NONE: bits of no THINGS, what below 0.");
        for (int set : new int[] {32, 33, 512, -1, MIN, MAX}) {
            Check.due("falls(" + set + ", 0)", x.falls(set, 0), -1);
        }
        Check.due("falls(30, -1)", x.falls(30, -1), -1);
        Check.due("falls(30, MIN)", x.falls(30, MIN), -1);
    }
}
