/** Promises 13 to 18. */
final class PromisesOfOrders {
    private static final String THREE = "thing a 0 0 2 3 1;thing b 0 3 2 2 1;thing c 0 5 2 1 1;";
    private static final int MIN = Integer.MIN_VALUE;
    private static final int MAX = Integer.MAX_VALUE;

    private PromisesOfOrders() {
    }

    static void run() {
        may();
        down();
        judge();
        most();
        push();
        hands();
    }

    private static void may() {
        Doc.says("P13", "MAY of what is there (bits).");
        TinTower x = Check.of(THREE);
        Check.due("may()", x.may(), 4);
        x.take(2);
        Check.due("may()", x.may(), 2);
        x.take(1);
        Check.due("may()", x.may(), 1);
        x.take(0);
        Check.due("may()", x.may(), 0);
        Check.due("it takes nothing", Check.of(THREE).there(), 7);
    }

    private static void down() {
        Doc.says("P14", "DOWN of what is there with one hand or two, what 0: whether there is an order (1, 0), 1 and on: THING what less 1 of it.");
        TinTower x = Check.of(THREE);
        int[][] due = {{1, 2, 1, 0}, {1, 0, 2, 1}};
        for (int hands = 1; hands <= 2; hands++) {
            for (int what = 0; what < 4; what++) {
                Check.due("down(" + hands + ", " + what + ")", x.down(hands, what), due[hands - 1][what]);
            }
        }
        x.take(2);
        Check.due("down(1, 1) of two", x.down(1, 1), 1);
        Check.due("down(2, 1) of two", x.down(2, 1), 0);
        x.undo();
        Check.due("down(1, 1) of three again", x.down(1, 1), 2);
        Check.due("down(2, 2) of three again", x.down(2, 2), 2);
        x.keep();
        x.move(2, 5);
        x.undo();
        Check.due("down(1, 1)", x.down(1, 1), 2);
        x.pull(0);
        Check.due("down(2, 1) of two", x.down(2, 1), 1);
        x.back();
        Check.due("down(2, 1) of three again", x.down(2, 1), 0);
        x.spree(1);
        Check.due("down(2, 0) of none", x.down(2, 0), 1);
        // The same ones stand in another way when one has been moved.
        TinTower z = Check.of("thing a 0 0 1 1 1;thing c 3 0 1 1 1;thing b 0 1 4 1 1;");
        Check.due("down(1, 1): the upper one", z.down(1, 1), 2);
        z.move(2, 1);
        Check.due("down(1, 1): one it stood on", z.down(1, 1), 0);
        z.undo();
        Check.due("down(1, 1): the upper one again", z.down(1, 1), 2);
        // What led nowhere leads on when one has been moved, and in another text.
        TinTower w = Check.of("thing a 0 0 1 1 1;thing b 0 3 1 1 1;thing c 3 3 1 1 1;thing d 5 3 1 1 1;");
        for (int hands = 1; hands <= 2; hands++) {
            Check.due("down(" + hands + ", 0)", w.down(hands, 0), 0);
        }
        Check.due("text", Check.read(w, "thing a 0 0 1 1 1;thing b 2 0 1 1 1;thing c 0 1 1 1 1;thing d 2 1 1 1 1;"), 4);
        int[][] orders = {{1, 2, 0, 3, 1}, {1, 0, 2, 1, 3}};
        for (int hands = 1; hands <= 2; hands++) {
            for (int what = 0; what <= 4; what++) {
                Check.due("down(" + hands + ", " + what + ")", w.down(hands, what), orders[hands - 1][what]);
            }
        }
        // Without the first one nothing led on, of the board on its post; of five apart it does.
        Check.due("text", Check.read(w, "thing m 5 2 2 1 20;thing l 0 2 1 1 1;thing r 11 2 1 1 1;thing b 0 1 12 1 1;thing p 5 0 2 1 1;"), 5);
        Check.due("down(1, 1) of the board", w.down(1, 1), 1);
        Check.due("text", Check.read(w, "thing a 0 0 1 1 1;thing b 1 0 1 1 1;thing c 2 0 1 1 1;thing d 3 0 1 1 1;thing e 4 0 1 1 1;"), 5);
        for (int what = 1; what <= 5; what++) {
            Check.due("down(1, " + what + ") of five apart", w.down(1, what), what - 1);
        }
        Doc.says("P14", "NONE: no such ones,");
        x.undo();
        for (int hands : new int[] {0, 3, -1, MIN, MAX}) {
            Check.due("down(" + hands + ", 0)", x.down(hands, 0), -1);
            Check.due("down(" + hands + ", 1)", x.down(hands, 1), -1);
        }
        for (int what : new int[] {4, 5, 10, -1, MIN, MAX}) {
            Check.due("down(1, " + what + ")", x.down(1, what), -1);
            Check.due("down(2, " + what + ")", x.down(2, what), -1);
        }
        Check.due("down(1, 1) of none", new TinTower().down(1, 1), -1);
        Doc.says("P14", "no order (what above 0).");
        TinTower hung = Check.of("thing a 0 1 1 1 1;thing b 2 1 1 1 1;thing c 4 1 1 1 1;");
        for (int hands = 1; hands <= 2; hands++) {
            Check.due("down(" + hands + ", 0)", hung.down(hands, 0), 0);
            for (int what = 1; what <= 3; what++) {
                Check.due("down(" + hands + ", " + what + ")", hung.down(hands, what), -1);
            }
        }
    }

    private static void judge() {
        Doc.says("P15", "Of an order told (n THINGS, four bits each, the first lowest): the first place at which one is taken that isn't there or may not be;");
        TinTower x = Check.of(THREE);
        long[][] due = {{3, 0x012, 3}, {2, 0x12, 2}, {3, 0x021, 0}, {3, 0x002, 1}, {3, 0x022, 1}, {3, 0x112, 2}, {3, 0x312, 2},
            {1, 0xf, 0}, {2, 0xf2, 1}, {1, 0x9, 0}, {4, 0x0012, 3}, {9, 0x012, 3}, {1, 0x10, 0}, {1, 0xf2, 1}, {2, -256 | 0x12, 2}};
        for (long[] d : due) {
            Check.due("judge(" + d[0] + ", " + d[1] + ")", x.judge((int) d[0], d[1]), d[2]);
        }
        Check.due("it takes nothing", x.there(), 7);
        x.take(2);
        Check.due("one that is gone", x.judge(1, 2), 0);
        Check.due("the next", x.judge(2, 0x01), 2);
        // What is told first may stand on what is told behind.
        TinTower y = Check.of("thing c 0 1 2 1 1;thing a 0 0 2 1 1;");
        Check.due("judge(1, 1): the first one would hang", y.judge(1, 1), 0);
        Check.due("judge(2, 10)", y.judge(2, 0x10), 2);
        TinTower tips = Check.of("shelf 4;thing a 2 0 6 1 1;thing b 2 1 1 1 9;");
        Check.due("judge(1, 1): the first one would tip", tips.judge(1, 1), 0);
        // What hangs must be taken first.
        TinTower hung = Check.of("thing a 0 0 1 1 1;thing h 4 4 1 1 1;");
        Check.due("judge(2, 10)", hung.judge(2, 0x01), 2);
        Check.due("judge(2, 01)", hung.judge(2, 0x10), 0);
        Doc.says("P15", "n: none.");
        TinTower z = Check.of(TermsOne.nine());
        Check.due("judge of nine", z.judge(9, 0x012345678L), 9);
        Check.due("judge of nine and more", z.judge(9, 0x7ff012345678L), 9);
        Check.due("judge of nine, the last again", z.judge(9, 0x112345678L), 8);
        Check.due("judge(0, -1)", z.judge(0, -1), 0);
        Doc.says("P15", "NONE: no such n (0 .. 9).");
        for (int n : new int[] {10, 16, -1, MIN, MAX}) {
            Check.due("judge(" + n + ", ..)", z.judge(n, 0x012345678L), -1);
        }
    }

    private static void most() {
        Doc.says("P16", "BEARS more;");
        TinTower x = Check.of("shelf 4;thing a 2 0 6 1 5 heart 2;thing b 7 1 1 1 1;thing z 2 1 1 1 20;");
        // 30 and 100 and 15 w are 8 (25 and w) at most: w is 10, 1 of it there.
        Check.due("most(1)", x.most(1), 9);
        Check.due("most(2)", x.most(2), 200);
        Check.due("the load is as it was", x.bears(1, 0), 27720);
        Check.due("and may() too", x.may(), 6);
        Doc.says("P16", "NONE: no such THING there,");
        x.take(1);
        for (int thing : new int[] {1, 3, 9, 32, -1, MIN, MAX}) {
            Check.due("most(" + thing + ")", x.most(thing), -1);
        }
        Doc.says("P16", "what is there doesn't STAND.");
        TinTower y = Check.of("thing a 0 0 1 1 1;thing h 4 4 1 1 1;");
        Check.due("most(0)", y.most(0), -1);
        Check.due("most(1)", y.most(1), -1);
        Check.due("more weight would make it stand", Check.of("shelf 4;thing a 2 0 6 1 5;thing z 2 1 1 1 1;").most(1), -1);
    }

    private static void push() {
        Doc.says("P17", "PUSH from a side; kind 0: by ROUGH, 1: SURE, 2: MAYBE.");
        TinTower x = Check.of("thing a 0 0 12 1 10 doubt 2;thing b 12 0 4 4 10 heart 6 rough 10 doubt 5;");
        int[][] due = {{5, 3, 7}, {5, 3, 7}, {2, 2, 2}, {7, 5, 7}};
        for (int i = 0; i < 4; i++) {
            for (int kind = 0; kind < 3; kind++) {
                Check.due("push(" + i / 2 + ", " + i % 2 + ", " + kind + ")", x.push(i / 2, i % 2, kind), due[i][kind]);
            }
        }
        Doc.says("P17", "NONE: no such ones there,");
        int[][] wrong = {{2, 0, 0}, {9, 0, 0}, {-1, 0, 0}, {MIN, 0, 0}, {MAX, 0, 0}, {0, 2, 0}, {0, -1, 0}, {0, MIN, 0},
            {0, 0, 3}, {0, 0, -1}, {0, 0, MAX}};
        for (int[] w : wrong) {
            Check.due("push(" + w[0] + ", " + w[1] + ", " + w[2] + ")", x.push(w[0], w[1], w[2]), -1);
        }
        x.take(1);
        Check.due("push(1, 0, 0), gone", x.push(1, 0, 0), -1);
        Doc.says("P17", "what is there doesn't STAND.");
        TinTower y = Check.of("thing a 0 0 12 1 10;thing r 12 0 2 2 1 round;thing h 4 4 1 1 1;");
        Check.due("push(0, 0, 0)", y.push(0, 0, 0), -1);
        Check.due("push(1, 0, 0)", y.push(1, 0, 0), -1);
        y.take(2);
        Check.due("push(0, 0, 0) without it", y.push(0, 0, 0), 5);
        Check.due("push(1, 0, 0) without it", y.push(1, 0, 0), 0);
    }

    private static void hands() {
        Doc.says("P18", "HANDS for a THING there, wedges: THINGS to be WEDGED instead, what 0: how many, 1: which (bits).");
        TinTower x = Check.of("shelf 4;thing a 7 1 1 1 9;thing b 6 1 1 1 9;thing c 2 0 6 1 5 heart 2;thing p 2 1 1 1 99;");
        Check.due("hands(3, false, 0)", x.hands(3, false, 0), 1);
        Check.due("hands(3, false, 1)", x.hands(3, false, 1), 4);
        Check.due("hands(3, true, 0)", x.hands(3, true, 0), 1);
        Check.due("hands(3, true, 1)", x.hands(3, true, 1), 4);
        Check.due("hands(0, true, 0)", x.hands(0, true, 0), 0);
        Check.due("hands(0, true, 1)", x.hands(0, true, 1), 0);
        Check.due("hands(2, false, 0)", x.hands(2, false, 0), 3);
        Check.due("hands(2, false, 1)", x.hands(2, false, 1), 11);
        x.take(0);
        Check.due("hands(3, false, 1) of those there", x.hands(3, false, 1), 2);
        Doc.says("P18", "-2: none do;");
        Check.due("hands(2, true, 0)", x.hands(2, true, 0), -2);
        Check.due("hands(2, true, 1)", x.hands(2, true, 1), -2);
        Doc.says("P18", "NONE: no such ones.");
        for (int thing : new int[] {0, 4, 9, 32, -1, MIN, MAX}) {
            Check.due("hands(" + thing + ", true, 0)", x.hands(thing, true, 0), -1);
            Check.due("hands(" + thing + ", false, 1)", x.hands(thing, false, 1), -1);
        }
        for (int what : new int[] {2, 3, -1, MIN, MAX}) {
            Check.due("hands(1, true, " + what + ")", x.hands(1, true, what), -1);
            Check.due("hands(2, true, " + what + ")", x.hands(2, true, what), -1);
        }
    }
}
