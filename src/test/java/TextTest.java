import java.util.NoSuchElementException;

/** Promises 1 to 6: a new object, the tape, texts and their faults, names, what is told of a thing. */
public final class TextTest {
    public static void main(String[] args) {
        newObject();
        feed();
        feedBytes();
        text();
        textKeepsAllWithAFault();
        textBeginsAnew();
        fault();
        faultsOfShelfAndTokens();
        faultsOfThings();
        faultsOfManners();
        faultsOfPlace();
        faultsOfChild();
        knots();
        goodTexts();
        named();
        look();
        Check.end("TextTest");
    }

    private static void newObject() {
        TinTower x = new TinTower();
        Check.due("new: there()", x.there(), 0);
        int[] counts = {0, 20, 0, 0, 0, 0, 0};
        for (int what = 0; what < counts.length; what++) {
            Check.due("new: count(" + what + ")", x.count(what), counts[what]);
        }
        Check.due("new: text(1)", x.text(1), -2);
        Check.due("new: fault(0)", x.fault(0), 0);
        Check.due("new: fault(1)", x.fault(1), -1);
        Check.due("new: undo()", x.undo(), -1);
        Check.due("new: back()", x.back(), -1);
        Check.due("new: child()", x.child(), -1);
        Check.due("new: feed", x.feed(0, 0, 0, 0, 0), 20);
    }

    private static void feed() {
        TinTower x = new TinTower();
        int blanks = 0x20202020;
        for (int i = 1; i <= 29; i++) {
            Check.due("feed " + i, x.feed(blanks, blanks, blanks, blanks, blanks), 20 * i);
        }
        Check.due("feed 30", x.feed(blanks, blanks, blanks, 0x7368656c, 0x6620373b), 600);
        Check.due("feed 31", x.feed(0, 0, 0, 0, 0), -1);
        Check.due("feed 32", x.feed(0, 0, 0, 0, 0), -1);
        Check.due("text(601)", x.text(601), -2);
        Check.due("text(600)", x.text(600), 1);
        Check.due("count(1)", x.count(1), 7);
        Check.due("feed behind text", x.feed(0, 0, 0, 0, 0), 20);
    }

    /** The highest byte of a number comes first; a byte above 127 is no sign of the language. */
    private static void feedBytes() {
        TinTower x = new TinTower();
        x.feed(0x7368656c, 0x6620393b, -1, 0x80818283, 0);
        Check.due("text(8)", x.text(8), 1);
        Check.due("count(1)", x.count(1), 9);
        x.feed(0x2020ffff, 0, 0, 0, 0);
        Check.due("text with bytes 255", x.text(20), -1);
        Check.due("its fault", x.fault(0), 1);
        Check.due("its place", x.fault(1), 2);
    }

    private static void text() {
        TinTower x = new TinTower();
        Check.feed(x, "shelf 9;shelf 8;thing");
        Check.due("text(-1)", x.text(-1), -2);
        Check.due("text(41)", x.text(41), -2);
        Check.due("text(MIN_VALUE)", x.text(Integer.MIN_VALUE), -2);
        Check.due("text(MAX_VALUE)", x.text(Integer.MAX_VALUE), -2);
        Check.due("text(8): the first bytes alone", x.text(8), 1);
        Check.due("text(1): the tape is empty then", x.text(1), -2);
        Check.due("text(0)", x.text(0), 0);
        Check.due("count(1) behind an empty text", x.count(1), 20);
        Check.due("lines", Check.read(x, "shelf 5;\n thing a 0 0 1 1 1 ; child 1;  "), 3);
        Check.due("text of blanks", Check.read(x, " \n "), 0);
    }

    private static void textKeepsAllWithAFault() {
        TinTower x = Check.of("shelf 9;thing a 0 0 2 2 1;thing b 0 2 2 2 1;child 1+1;");
        x.keep();
        Check.due("take(1)", x.take(1), 1);
        Check.due("text with a fault", Check.read(x, "shelf 5;thing z 9 0 1 1 1;child 2;thing z"), -1);
        Check.due("the tape is empty", x.text(1), -2);
        Check.due("there()", x.there(), 1);
        Check.due("count(0)", x.count(0), 2);
        Check.due("count(1)", x.count(1), 9);
        Check.due("count(2)", x.count(2), 3);
        Check.due("wish(0)", x.wish(0), 2);
        Check.due("named z", x.named(Check.letters("z")), -1);
        Check.due("undo()", x.undo(), 0);
        Check.due("there() behind undo", x.there(), 3);
        Check.due("back()", x.back(), 3);
    }

    private static void textBeginsAnew() {
        TinTower x = Check.of("shelf 9;thing a 0 0 2 2 1;child 1;");
        x.keep();
        x.move(0, 3);
        Check.read(x, "thing b 7 0 3 2 1;thing c 0 0 1 1 1;");
        Check.due("there()", x.there(), 3);
        Check.due("undo()", x.undo(), -1);
        Check.due("back()", x.back(), -1);
        Check.due("count(1)", x.count(1), 20);
        Check.due("count(2)", x.count(2), 0);
        Check.due("count(5)", x.count(5), 0);
        Check.due("look(0, 0)", x.look(0, 0), 7);
        Check.due("named a", x.named(Check.letters("a")), -1);
        Check.due("wish(0)", x.wish(0), Long.MIN_VALUE);
    }

    private static void fault() {
        TinTower x = new TinTower();
        Check.read(x, "shelf 41;");
        Check.due("fault(0)", x.fault(0), 2);
        Check.due("fault(1)", x.fault(1), 6);
        Check.due("fault(2)", x.fault(2), -1);
        Check.due("fault(-1)", x.fault(-1), -1);
        x.text(1);
        Check.due("fault(0) behind -2", x.fault(0), 2);
        Check.due("fault(1) behind -2", x.fault(1), 6);
        Check.read(x, "shelf 40;");
        Check.due("fault(0) without", x.fault(0), 0);
        Check.due("fault(1) without", x.fault(1), -1);
    }

    private static void faultsOfShelfAndTokens() {
        Check.fault(";", 1, 0);
        Check.fault("9", 1, 0);
        Check.fault("shelf", 1, 5);
        Check.fault("shelf  ", 1, 7);
        Check.fault("shelf ;", 1, 6);
        Check.fault("shelf a;", 1, 6);
        Check.fault("shelf 0;", 2, 6);
        Check.fault("shelf 41;", 2, 6);
        Check.fault("shelf 99999999999999999999;", 2, 6);
        Check.fault("shelf 4294967297;", 2, 6);
        Check.fault("shelf 9", 1, 7);
        Check.fault("shelf 9 9;", 1, 8);
        Check.fault("shelf 9;;", 1, 8);
        Check.fault("shelf 9; shelf 99;", 3, 9);
        Check.fault("shelf 99 ! thing", 2, 6);
        Check.fault("shelfs 9;", 1, 0);
        Check.fault("shelfss 9;", 1, 0);
        Check.fault("shelve 9;", 1, 0);
        Check.fault("tin 9;", 1, 0);
        Check.fault("round;", 1, 0);
        Check.fault("Shelf 9;", 1, 0);
        Check.fault("shElf 9;", 1, 0);
        Check.fault("shelf\t9;", 1, 5);
        Check.fault("shelf 9,", 1, 7);
        Check.fault("shelf 9;\u00e9", 1, 8);
        Check.fault("shelf 9;\0", 1, 8);
    }

    private static void faultsOfThings() {
        Check.fault("thing", 1, 5);
        Check.fault("thing 1", 1, 6);
        Check.fault("thing abcdefg 0 0 1 1 1;", 1, 6);
        for (String word : Model.WORDS) {
            Check.fault("thing " + word + " 0 0 1 1 1;", 1, 6);
        }
        Check.fault("thing a", 1, 7);
        Check.fault("thing a 0 0 1 1;", 1, 15);
        Check.fault("thing a 0 0 1 1 1 1;", 1, 18);
        Check.fault("thing a 0 0 1 1 1", 1, 17);
        Check.fault("thing a 40 0 1 1 1;", 2, 8);
        Check.fault("thing a 0 40 1 1 1;", 2, 10);
        Check.fault("thing a 0 0 0 1 1;", 2, 12);
        Check.fault("thing a 0 0 13 1 1;", 2, 12);
        Check.fault("thing a 0 0 1 0 1;", 2, 14);
        Check.fault("thing a 0 0 1 13 1;", 2, 14);
        Check.fault("thing a 0 0 1 1 0;", 2, 16);
        Check.fault("thing a 0 0 1 1 100;", 2, 16);
        Check.fault("thing a -1 0 1 1 1;", 1, 8);
        Check.fault("thing a 0 0 1 1 1;thing a 9 0 1 1 1;", 3, 24);
        Check.fault("thing ab 0 0 1 1 1;thing b 9 0 1 1 1;thing ab", 3, 43);
        StringBuilder ten = new StringBuilder();
        for (int i = 0; i < 9; i++) {
            ten.append("thing ").append((char) ('a' + i)).append(' ').append(i).append(" 0 1 1 1;");
        }
        Check.due("nine things", Check.of(ten.toString()).count(0), 9);
        Check.fault(ten + "shelf 3; thing", 2, ten.length() + 9);
        Check.fault(ten + "thing abcdefg", 2, ten.length());
    }

    private static void faultsOfManners() {
        Check.fault("thing a 0 0 1 1 1 round round;", 3, 24);
        Check.fault("thing a 0 0 1 1 1 rough 1 rough 1;", 3, 26);
        Check.fault("thing a 0 0 1 1 1 heart 1 heart 1;", 3, 26);
        Check.fault("thing a 0 0 1 1 1 doubt 1 round doubt 9;", 3, 32);
        Check.fault("thing a 0 0 1 1 1 rough 11;", 2, 24);
        Check.fault("thing a 0 0 1 1 1 doubt 6;", 2, 24);
        Check.fault("thing a 0 0 1 1 1 heart 3;", 2, 24);
        Check.fault("thing a 0 0 12 1 1 heart 25;", 2, 25);
        Check.fault("thing a 0 0 1 1 1 rough;", 1, 23);
        Check.fault("thing a 0 0 1 1 1 heart round;", 1, 24);
        Check.fault("thing a 0 0 1 1 1 round 1;", 1, 24);
        Check.fault("thing a 0 0 1 1 1 smooth;", 1, 18);
        Check.fault("thing a 0 0 1 1 1 rough 1 child;", 1, 26);
    }

    /** 4 is at the name, but is asked at the ; alone. */
    private static void faultsOfPlace() {
        Check.fault("thing a 0 0 1 1 1;thing b 0 0 1 1 1;", 4, 24);
        Check.fault("thing a 0 0 1 1 1;thing b 0 0 1 1 1", 1, 35);
        Check.fault("thing a 0 0 1 1 1;thing b 0 0 1 1 1 rough 11;", 2, 42);
        Check.fault("thing a 0 0 1 1 1;thing b 0 0 1 1 1 round ;thing b", 4, 24);
        Check.fault("thing a 2 2 4 4 1;thing b 0 0 9 9 1;", 4, 24);
        Check.fault("thing a 0 0 4 4 1 round;thing b 3 3 2 2 1 round;", 4, 30);
        Check.fault("thing a 0 0 1 1 1;thing b 5 0 1 1 1;thing c 5 0 1 1 1;thing", 4, 42);
        TinTower x = Check.of("thing a 2 2 2 2 1;thing b 4 2 1 2 1;thing c 0 2 2 1 1;thing d 2 4 2 1 1;thing e 2 0 2 2 1;");
        Check.due("they only touch", x.count(0), 5);
    }

    private static void faultsOfChild() {
        Check.fault("child", 1, 5);
        Check.fault("child;", 1, 5);
        Check.fault("child 1", 1, 7);
        Check.fault("child 1 2;", 1, 8);
        Check.fault("child 1 wide;", 1, 8);
        Check.fault("child 10000;", 2, 6);
        Check.fault("child -1;", 1, 6);
        Check.fault("child 1+;", 1, 8);
        Check.fault("child 1+*2;", 1, 8);
        Check.fault("child tin;", 1, 6);
        Check.fault("child round;", 1, 6);
        Check.fault("child 1<2<3;", 1, 9);
        Check.fault("child 1=2+3>4;", 1, 11);
        Check.fault("child 1+2=3-4<>5;", 1, 13);
        Check.fault("child 1<=2 and 3=4=5;", 1, 18);
        Check.fault("child 1 < = 2;", 1, 10);
        Check.fault("child 1=>2;", 1, 8);
        Check.fault("child 1=<2;", 1, 8);
        Check.fault("child 1><2;", 1, 8);
        Check.fault("child 1<>=2;", 1, 9);
        Check.fault("child 1+not 2;", 1, 8);
        Check.fault("child 1=not 2;", 1, 8);
        Check.fault("child 2*not 1;", 1, 8);
        Check.fault("child 1 not 2;", 1, 8);
        Check.fault("child not;", 1, 9);
        Check.fault("child 1 and;", 1, 11);
        Check.fault("child or 1;", 1, 6);
        Check.fault("child (1;", 1, 8);
        Check.fault("child (1", 1, 8);
        Check.fault("child ();", 1, 7);
        Check.fault("child 1);", 1, 7);
        Check.fault("child (1));", 1, 9);
        Check.fault("child 2(1);", 1, 7);
        Check.fault("child (1)2;", 1, 9);
        Check.fault("child (1)(2);", 1, 9);
        Check.fault("child (((((((((1;", 2, 14);
        Check.fault("child 1; child 2;", 3, 9);
        Check.fault("child 1 ! 2;", 1, 8);
    }

    private static void knots() {
        StringBuilder sum = new StringBuilder("child not 1");
        for (int i = 0; i < 31; i++) {
            sum.append("+1");
        }
        Check.due("64 knots", Check.of(sum + ";").count(2), 64);
        Check.due("64 knots and brackets", Check.of("child ((" + sum.substring(6) + "));").count(2), 64);
        Check.fault(sum + " and 1;", 2, sum.length() + 1);
        Check.fault(sum + "<=1;", 2, sum.length());
        Check.fault(sum + ");", 1, sum.length());
        Check.fault(sum + " 1;", 1, sum.length() + 1);
        Check.fault("child 1+" + sum.substring(10) + ";", 2, sum.length() - 3);
        Check.fault("child not " + sum.substring(6) + ";", 2, sum.length() + 3);
        Check.due("knots of all kinds", Check.of("child not (wide<=2) and 1 or 3*4-5/6<>7;").count(2), 16);
        Check.due("no knots", Check.of("shelf 3;").count(2), 0);
    }

    private static void goodTexts() {
        Check.due("word and number", Check.of("shelf10;").count(1), 10);
        Check.due("zeros ahead", Check.of("shelf 000000000000031;").count(1), 31);
        Check.due("shelf 1", Check.of("shelf 1;").count(1), 1);
        Check.due("shelf 40", Check.of("shelf 40;").count(1), 40);
        Check.due("a child ahead of all", Check.of("child 1;thing a 0 0 1 1 1;shelf 9;").wish(0), 1);
        Check.due("brackets", Check.of("child ((((((((1))))))));").count(2), 1);
        Check.due("brackets again", Check.of("child ((((((((1))))))))+((((((((1))))))));").count(2), 3);
        Check.due("not not", Check.of("child not not 1;thing a 0 0 1 1 1;").wish(0), 1);
        Check.due("a comparison in brackets", Check.of("child (1<2)<3;thing a 0 0 1 1 1;").wish(0), 1);
        Check.due("9999", Check.of("child 9999;thing a 0 0 1 1 1;").wish(0), 9999);
        TinTower x = Check.of("thing a 39 39 12 12 99doubt5heart24rough10round;");
        int[] due = {39, 39, 12, 12, 99, 1, 10, 5, 102, 1};
        for (int what = 0; what < due.length; what++) {
            Check.due("look(0, " + what + ") of the greatest", x.look(0, what), due[what]);
        }
        TinTower y = Check.of("thing zzzzzz 0 0 1 1 1 rough 0 doubt 0 heart 0;");
        int[] least = {0, 0, 1, 1, 1, 0, 0, 0, 0, 1};
        for (int what = 0; what < least.length; what++) {
            Check.due("look(0, " + what + ") of the least", y.look(0, what), least[what]);
        }
    }

    private static void named() {
        TinTower x = Check.of("thing a 0 0 1 1 1;thing ab 1 0 1 1 1;thing abcdef 2 0 1 1 1;thing zzzzzz 3 0 1 1 1;");
        Check.due("named a", x.named(1 << 25), 0);
        Check.due("named ab", x.named(1 << 25 | 2 << 20), 1);
        Check.due("named abcdef", x.named(1 << 25 | 2 << 20 | 3 << 15 | 4 << 10 | 5 << 5 | 6), 2);
        Check.due("named zzzzzz", x.named(Check.letters("zzzzzz")), 3);
        Check.due("named b", x.named(2 << 25), -1);
        Check.due("named 1", x.named(1), -1);
        Check.due("named nothing", x.named(0), -1);
        Check.due("named below 0", x.named(-1), -1);
        Check.due("named with more than six", x.named(1 << 30 | 1 << 25), -1);
        x.take(1);
        Check.due("named one that isn't there", x.named(1 << 25 | 2 << 20), 1);
        Check.read(x, "thing q 0 0 1 1 1;thing q");
        Check.due("named q of a text with a fault", x.named(Check.letters("q")), -1);
    }

    private static int thrown(TinTower x, int thing, int what) {
        try {
            x.look(thing, what);
            return 0;
        } catch (IndexOutOfBoundsException e) {
            return 1;
        } catch (NoSuchElementException e) {
            return 2;
        }
    }

    private static void look() {
        TinTower x = Check.of("shelf 9;thing a 1 0 3 2 7 round;thing b 1 2 4 5 6 rough 8 doubt 3 heart 5;thing c 6 0 1 1 1;");
        int[] a = {1, 0, 3, 2, 7, 1, 5, 0, 5, 1};
        int[] b = {1, 2, 4, 5, 6, 0, 8, 3, 7, 1};
        for (int what = 0; what < 10; what++) {
            Check.due("look(0, " + what + ")", x.look(0, what), a[what]);
            Check.due("look(1, " + what + ")", x.look(1, what), b[what]);
        }
        Check.due("look(3, 0) throws", thrown(x, 3, 0), 1);
        Check.due("look(-1, 0) throws", thrown(x, -1, 0), 1);
        Check.due("look(3, 10) throws", thrown(x, 3, 10), 1);
        Check.due("look(MIN_VALUE, -1) throws", thrown(x, Integer.MIN_VALUE, -1), 1);
        Check.due("look(0, 10) throws", thrown(x, 0, 10), 2);
        Check.due("look(0, -1) throws", thrown(x, 0, -1), 2);
        Check.due("move(2, 2)", x.move(2, 2), 5);
        Check.due("look(2, 0) moved", x.look(2, 0), 8);
        Check.due("look(2, 8) moved", x.look(2, 8), 17);
        Check.due("look(1, 9) fallen", x.look(1, 9), 0);
        Check.due("look(1, 4) fallen", x.look(1, 4), 6);
    }
}
