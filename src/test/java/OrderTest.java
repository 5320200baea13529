/** Promises 13 to 18: what may be taken, orders, told orders, more weight, pushes, helping hands and wedges. */
public final class OrderTest {
    private static final String PAIR = "thing a 0 0 2 2 1;thing b 0 2 2 2 1;";
    private static final String THREE = PAIR + "thing c 0 4 2 2 1;";
    /** A board beyond the shelf's end, something heavy on its right end, more at its left end. */
    private static final String BOARD = "shelf 4;thing a 2 0 6 1 5 heart 2;thing b 7 1 1 1 9;thing z 2 1 1 1 20;";

    public static void main(String[] args) {
        may();
        down();
        downWithTwo();
        downChanging();
        downWhereNoneIs();
        judge();
        most();
        push();
        pushSides();
        pushRough();
        pushLoads();
        hands();
        handsOfSeveral();
        Check.end("OrderTest");
    }

    private static void may() {
        Check.due("may() of none", new TinTower().may(), 0);
        Check.due("may() of one", Check.of("thing a 0 0 2 2 1;").may(), 1);
        Check.due("may() of three", Check.of(THREE).may(), 4);
        Check.due("may() of two apart", Check.of("thing a 0 0 2 2 1;thing b 4 0 2 2 1;").may(), 3);
        Check.due("may() with one that hangs", Check.of("thing a 0 0 2 2 1;thing b 5 1 1 1 1;").may(), 2);
        Check.due("may() with two that hang", Check.of("thing a 9 1 2 2 1;thing b 5 1 1 1 1;").may(), 0);
        TinTower board = Check.of(BOARD);
        Check.due("may() of the board", board.may(), 2);
        board.take(1);
        Check.due("may() without its end", board.may(), 4);
    }

    private static void dueDown(TinTower x, int hands, int... order) {
        Check.due("down(" + hands + ", 0)", x.down(hands, 0), 1);
        for (int i = 0; i < order.length; i++) {
            Check.due("down(" + hands + ", " + (i + 1) + ")", x.down(hands, i + 1), order[i]);
        }
        Check.due("down(" + hands + ", " + (order.length + 1) + ")", x.down(hands, order.length + 1), -1);
        Check.due("down(" + hands + ", -1)", x.down(hands, -1), -1);
    }

    private static void down() {
        TinTower x = Check.of(THREE);
        dueDown(x, 1, 2, 1, 0);
        Check.due("down(0, 0)", x.down(0, 0), -1);
        Check.due("down(3, 0)", x.down(3, 0), -1);
        Check.due("down(-1, 0)", x.down(-1, 0), -1);
        Check.due("down(3, 1)", x.down(3, 1), -1);
        Check.due("down(1, MAX_VALUE)", x.down(1, Integer.MAX_VALUE), -1);
        dueDown(new TinTower(), 1);
        dueDown(new TinTower(), 2);
        x.take(2);
        dueDown(x, 1, 1, 0);
        x.undo();
        dueDown(x, 1, 2, 1, 0);
        x.move(2, 5);
        dueDown(x, 1, 1, 0);
        dueDown(Check.of("thing a 0 0 1 1 1;thing b 1 0 1 1 1;thing c 2 0 1 1 1;"), 1, 0, 1, 2);
        dueDown(Check.of(BOARD), 1, 1, 2, 0);
    }

    private static void downWithTwo() {
        dueDown(Check.of(PAIR), 2, 0, 1);
        // Two hang: the one is held while the other is taken.
        TinTower x = Check.of("thing a 9 1 2 2 1;thing b 5 1 1 1 1;");
        Check.due("down(1, 0) of two that hang", x.down(1, 0), 0);
        Check.due("down(1, 1) of two that hang", x.down(1, 1), -1);
        dueDown(x, 2, 0, 1);
        // The board tips without the weight on it, also where that is held: only then is it taken itself.
        TinTower board = Check.of("shelf 4;thing d 0 0 1 1 1;thing a 2 0 6 1 1;thing b 2 1 1 1 9;");
        Check.due("down(1, 0) of the board", board.down(1, 0), 0);
        dueDown(board, 2, 0, 1, 2);
        // With g hanging one must hold it all the time, and then no one holds the board or the weight.
        TinTower both = Check.of("shelf 4;thing a 2 0 6 1 1;thing b 2 1 1 1 9;thing g 20 9 1 1 1;");
        dueDown(both, 2, 2, 0, 1);
    }

    /** The hand can let go and hold another one only where what is there stands by itself. */
    private static void downChanging() {
        TinTower x = Check.of("thing g 0 5 1 1 1;thing a 4 0 2 1 1;thing b 4 1 2 1 1;thing c 4 2 2 1 1;");
        dueDown(x, 1, 0, 3, 2, 1);
        dueDown(x, 2, 0, 1, 3, 2);
        TinTower y = Check.of("thing a 4 0 2 1 1;thing b 4 1 2 1 1;thing c 4 2 2 1 1;thing g 0 5 1 1 1;");
        Check.due("down(1, 0)", y.down(1, 0), 1);
        dueDown(y, 1, 3, 2, 1, 0);
        dueDown(y, 2, 2, 1, 0, 3);
    }

    private static void downWhereNoneIs() {
        TinTower x = Check.of("thing a 0 1 1 1 1;thing b 2 1 1 1 1;thing c 4 1 1 1 1;");
        for (int hands = 1; hands <= 2; hands++) {
            Check.due("down(" + hands + ", 0) of three that hang", x.down(hands, 0), 0);
            Check.due("down(" + hands + ", 1) of three that hang", x.down(hands, 1), -1);
            Check.due("down(" + hands + ", 4) of three that hang", x.down(hands, 4), -1);
        }
    }

    private static void judge() {
        TinTower x = Check.of(PAIR);
        Check.due("judge(2, 1 0)", x.judge(2, 0x01), 2);
        Check.due("judge(2, 0 1)", x.judge(2, 0x10), 0);
        Check.due("judge(2, 1 1)", x.judge(2, 0x11), 1);
        Check.due("judge(1, 1)", x.judge(1, 0x1), 1);
        Check.due("judge(1, 1) and more behind", x.judge(1, 0xfffffffffffffff1L), 1);
        Check.due("judge(3, 1 0 0)", x.judge(3, 0x001), 2);
        Check.due("judge(3, 1 2 0)", x.judge(3, 0x021), 1);
        Check.due("judge(2, 1 15)", x.judge(2, 0xf1), 1);
        Check.due("judge(0, ..)", x.judge(0, -1L), 0);
        Check.due("judge(9, -1)", x.judge(9, -1L), 0);
        Check.due("judge(10, ..)", x.judge(10, 0x01), -1);
        Check.due("judge(-1, ..)", x.judge(-1, 0x01), -1);
        x.take(1);
        Check.due("judge of one gone", x.judge(1, 0x1), 0);
        Check.due("judge of the last", x.judge(1, 0x0), 1);
        StringBuilder nine = new StringBuilder();
        for (int i = 0; i < 9; i++) {
            nine.append("thing ").append((char) ('a' + i)).append(' ').append(i).append(" 0 1 1 1;");
        }
        TinTower y = Check.of(nine.toString());
        Check.due("judge of nine", y.judge(9, 0x012345678L), 9);
        Check.due("judge of nine, the last again", y.judge(9, 0x112345678L), 8);
        Check.due("it takes nothing", y.there(), 511);
    }

    private static void most() {
        TinTower x = Check.of(BOARD);
        // 25 times 4 halves at the left of 8, the board 10: (14 + 20 + w) times 8 is reached at 30 and w: 7 w.
        Check.due("most(0): at its own heart", x.most(0), 200);
        Check.due("most(1)", x.most(1), 1);
        Check.due("most(2)", x.most(2), 200);
        Check.due("most(3)", x.most(3), -1);
        Check.due("most(-1)", x.most(-1), -1);
        TinTower y = Check.of("shelf 4;thing a 2 0 6 1 5 heart 2;thing b 7 1 1 1 1;thing c 9 9 1 1 1;");
        Check.due("most(1), one hangs", y.most(1), -1);
        y.take(2);
        Check.due("most(1)", y.most(1), 0);
        Check.due("most(2), gone", y.most(2), -1);
        // Just 200: the board's end would bear 8 w - 15 w at most 7 * 200.
        TinTower z = Check.of("shelf 4;thing a 2 0 6 1 99 heart 0;thing b 4 1 1 1 99 heart 0;thing c 7 1 1 1 1;"
                + "thing d 2 1 1 1 99 heart 0;");
        Check.due("most(2) of the heavy board", z.most(2), 112);
    }

    private static void push() {
        TinTower x = Check.of("thing a 0 0 4 5 10;");
        Check.due("push(0, 0, 0)", x.push(0, 0, 0), 4);
        Check.due("push(0, 1, 0)", x.push(0, 1, 0), 4);
        Check.due("push(0, 2, 0)", x.push(0, 2, 0), -1);
        Check.due("push(0, -1, 0)", x.push(0, -1, 0), -1);
        Check.due("push(0, 0, 3)", x.push(0, 0, 3), -1);
        Check.due("push(0, 0, -1)", x.push(0, 0, -1), -1);
        Check.due("push(1, 0, 0)", x.push(1, 0, 0), -1);
        Check.due("push(-1, 0, 0)", x.push(-1, 0, 0), -1);
        TinTower y = Check.of("thing a 0 0 4 5 10;thing b 9 9 1 1 1;");
        Check.due("push, but one hangs", y.push(0, 0, 0), -1);
        y.take(1);
        Check.due("push without it", y.push(0, 0, 0), 4);
        Check.due("push of one gone", y.push(1, 0, 0), -1);
    }

    private static void pushSides() {
        TinTower x = Check.of("thing a 1 0 4 5 10 heart 8;");
        Check.due("from the left over its heart", x.push(0, 0, 0), 0);
        Check.due("from the right over its whole", x.push(0, 1, 0), 5);
        TinTower y = Check.of("shelf 4;thing a 2 0 4 5 10 heart 2;");
        // The edge goes from 4 to 8, the heart is at 6.
        Check.due("over the shelf's end", y.push(0, 0, 0), 2);
        Check.due("over its own end", y.push(0, 1, 0), 2);
        TinTower z = Check.of("thing p 0 0 2 1 1;thing q 8 0 2 1 1;thing a 1 1 8 1 20 rough 10;");
        // Over the far edges' ends: 18 from the left, 2 from the right, its heart at 10.
        Check.due("over far edges", z.push(2, 0, 0), 20);
        TinTower w = Check.of("thing p 0 0 2 1 1;thing q 8 0 2 1 1;thing a 1 1 8 9 20 rough 10 heart 6;");
        Check.due("over far edges, high, from the left", w.push(2, 0, 0), 11);
        Check.due("over far edges, high, from the right", w.push(2, 1, 0), 6);
        w.take(1);
        Check.due("the window has fallen", w.there(), 1);
    }

    private static void pushRough() {
        TinTower x = Check.of("thing a 0 0 4 1 10 doubt 2;thing b 6 0 4 1 10 rough 1 doubt 3;thing c 12 0 4 1 3;"
                + "thing r 17 0 2 2 9 round;thing e 10 0 1 1 9 rough 0;");
        int[][] due = {{5, 3, 7}, {1, 0, 4}, {1, 1, 1}, {0, 0, 0}, {0, 0, 0}};
        for (int t = 0; t < due.length; t++) {
            for (int kind = 0; kind < 3; kind++) {
                Check.due("push(" + t + ", 0, " + kind + ")", x.push(t, 0, kind), due[t][kind]);
                Check.due("push(" + t + ", 1, " + kind + ")", x.push(t, 1, kind), due[t][kind]);
            }
        }
    }

    private static void pushLoads() {
        TinTower x = Check.of("thing a 0 0 12 1 10;thing b 5 1 2 1 30;");
        Check.due("with what it bears", x.push(0, 0, 0), 20);
        x.take(1);
        Check.due("without", x.push(0, 0, 0), 5);
        TinTower y = Check.of("thing a 0 0 12 1 99 rough 10 doubt 5;");
        Check.due("more than its load", y.push(0, 0, 2), 148);
        Check.due("less than its load", y.push(0, 0, 1), 49);
    }

    private static void dueHands(TinTower x, int thing, boolean wedges, int number, int which) {
        Check.due("hands(" + thing + ", " + wedges + ", 0)", x.hands(thing, wedges, 0), number);
        Check.due("hands(" + thing + ", " + wedges + ", 1)", x.hands(thing, wedges, 1), which);
    }

    private static void hands() {
        TinTower x = Check.of(THREE);
        dueHands(x, 0, false, 1, 2);
        dueHands(x, 0, true, -2, -2);
        dueHands(x, 1, false, 1, 4);
        dueHands(x, 2, false, 0, 0);
        dueHands(x, 2, true, 0, 0);
        dueHands(x, 3, false, -1, -1);
        dueHands(x, -1, true, -1, -1);
        Check.due("hands(0, true, 2)", x.hands(0, true, 2), -1);
        Check.due("hands(0, false, -1)", x.hands(0, false, -1), -1);
        x.take(2);
        dueHands(x, 2, false, -1, -1);
        dueHands(Check.of("thing a 0 1 1 1 1;thing b 2 1 1 1 1;thing c 4 1 1 1 1;"), 1, false, 2, 5);
    }

    /** Without the weight z the board tips: it or what is on its end may be held, it alone wedged. */
    private static void handsOfSeveral() {
        TinTower x = Check.of(BOARD);
        dueHands(x, 2, false, 1, 1);
        dueHands(x, 2, true, 1, 1);
        dueHands(x, 1, false, 0, 0);
        dueHands(x, 0, false, 2, 6);
        dueHands(x, 0, true, -2, -2);
        TinTower y = Check.of("shelf 4;thing b 7 1 1 1 9;thing a 2 0 6 1 5 heart 2;thing z 2 1 1 1 20;");
        dueHands(y, 2, false, 1, 1);
        dueHands(y, 2, true, 1, 2);
    }
}
