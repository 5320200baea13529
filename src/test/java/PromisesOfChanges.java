/** Promises 24 to 33. */
final class PromisesOfChanges {
    private static final String THREE = "thing a 0 0 2 3 4;thing b 0 3 2 2 2;thing c 0 5 2 1 1;";
    private static final String APART = "thing a 0 0 1 1 2;thing b 2 0 1 1 3;thing c 4 0 1 1 1;";
    private static final long ERROR = Long.MIN_VALUE;
    private static final int MIN = Integer.MIN_VALUE;
    private static final int MAX = Integer.MAX_VALUE;
    private static final int[] NO_THINGS = {3, 4, 9, 32, -1, MIN, MAX};

    private PromisesOfChanges() {
    }

    static void run() {
        child();
        wish();
        spree();
        take();
        pull();
        move();
        moveRefused();
        undo();
        keepAndBack();
        count();
    }

    private static void child() {
        Doc.says("P24", "What the CHILD would take;");
        TinTower x = Check.of(APART + "child weight;");
        Check.due("child()", x.child(), 1);
        Check.due("it takes nothing", x.there(), 7);
        Doc.says("P24", "NONE: nothing is there.");
        x.spree(9);
        Check.due("child() of nothing", x.child(), -1);
        Check.due("child() of no things", Check.of("child 1;").child(), -1);
    }

    private static void wish() {
        Doc.says("P25", "E of a THING there.");
        TinTower x = Check.of(APART + "child weight-2;");
        Check.due("wish(0)", x.wish(0), 0);
        Check.due("wish(1)", x.wish(1), 1);
        Check.due("wish(2)", x.wish(2), -1);
        Doc.says("P25", "Long.MIN_VALUE: an ERROR, no child, no such one.");
        for (int thing : NO_THINGS) {
            Check.due("wish(" + thing + ")", x.wish(thing), ERROR);
        }
        x.take(1);
        Check.due("wish(1), gone", x.wish(1), ERROR);
        Check.due("no child", Check.of(APART).wish(0), ERROR);
        TinTower y = Check.of(APART + "child 1/(weight-2);");
        Check.due("an ERROR", y.wish(0), ERROR);
        Check.due("no ERROR", y.wish(1), 1);
    }

    private static void spree() {
        Doc.says("P26", "The CHILD takes n times (0 .. 9), till nothing is there: how many it took;");
        TinTower x = Check.of(TermsOne.nine() + "child left;");
        Check.due("spree(0)", x.spree(0), 0);
        Check.due("there()", x.there(), 511);
        Check.due("spree(1)", x.spree(1), 1);
        Check.due("there()", x.there(), 255);
        Check.due("spree(3)", x.spree(3), 3);
        Check.due("there()", x.there(), 31);
        Check.due("spree(9)", x.spree(9), 5);
        Check.due("there()", x.there(), 0);
        Check.due("spree(9) of nothing", x.spree(9), 0);
        Check.due("spree(0) of nothing", x.spree(0), 0);
        x.undo();
        x.undo();
        x.undo();
        Check.due("spree(9) of nine", x.spree(9), 9);
        TinTower y = Check.of(THREE + "thing d 5 0 1 1 3;");
        Check.due("those that fall are not taken", y.spree(9), 2);
        Check.due("there()", y.there(), 0);
        // It is worked out anew each time: c's weight is on b, then b's on a.
        TinTower z = Check.of("thing a 0 0 2 1 4;thing b 0 1 2 1 3;thing c 5 0 1 1 5;child 100*(above=0)+weight;");
        Check.due("spree(2)", z.spree(2), 2);
        Check.due("there()", z.there(), 1);
        Doc.says("P26", "NONE: no such n.");
        for (int n : new int[] {10, 11, -1, MIN, MAX}) {
            Check.due("spree(" + n + ")", z.spree(n), -1);
        }
        Check.due("there()", z.there(), 1);
    }

    private static void take() {
        Doc.says("P27", "A THING is taken, then WHAT FALLS is gone: what is left (bits);");
        TinTower x = Check.of("thing d 5 0 1 1 3;" + THREE);
        Check.due("take(3)", x.take(3), 7);
        Check.due("take(1)", x.take(1), 1);
        Check.due("there()", x.there(), 1);
        Check.due("take(0)", x.take(0), 0);
        Check.due("what hung falls then", Check.of("thing h 5 5 1 1 1;" + THREE).take(3), 6);
        Check.due("nothing moves", x.undo() + 10 * x.undo(), 12);
        Check.due("look(2, 1)", x.look(2, 1), 3);
        Doc.says("P27", "NONE: no such one there.");
        TinTower y = Check.of(THREE);
        for (int thing : NO_THINGS) {
            Check.due("take(" + thing + ")", y.take(thing), -1);
        }
        y.take(1);
        Check.due("take(1) again", y.take(1), -1);
        Check.due("take(2), fallen", y.take(2), -1);
        Check.due("there()", y.there(), 1);
    }

    private static void pull() {
        Doc.says("P28", "A THING is PULLED out: what is left (bits);");
        TinTower x = Check.of(THREE + "thing d 5 0 1 1 3;");
        Check.due("pull(0)", x.pull(0), 14);
        Check.due("there()", x.there(), 14);
        Check.due("look(1, 1)", x.look(1, 1), 0);
        Check.due("look(2, 1)", x.look(2, 1), 2);
        Check.due("above(1)", x.above(1), 4);
        Check.due("bears(1, 0)", x.bears(1, 0), 3 * 27720);
        Check.due("pull(2)", x.pull(2), 10);
        Check.due("what is lost and what falls", Check.of("shelf 4;thing z 0 0 1 1 1;thing h 4 5 4 1 1;thing g 3 5 1 1 1;").pull(0), 4);
        Doc.says("P28", "NONE: no such one there.");
        TinTower y = Check.of(THREE);
        for (int thing : NO_THINGS) {
            Check.due("pull(" + thing + ")", y.pull(thing), -1);
        }
        y.pull(1);
        Check.due("pull(1) again", y.pull(1), -1);
        Check.due("there()", y.there(), 5);
    }

    private static void move() {
        Doc.says("P29", "A THING there is moved along by a finger, by -9 .. 9 (nothing else moves), then WHAT FALLS is gone: what is left (bits);");
        TinTower x = Check.of("shelf 40;" + THREE + "thing d 30 0 1 1 3;");
        Check.due("move(3, 9)", x.move(3, 9), 15);
        Check.due("look(3, 0)", x.look(3, 0), 39);
        Check.due("move(3, -9)", x.move(3, -9), 15);
        Check.due("look(3, 0)", x.look(3, 0), 30);
        Check.due("move(0, 1)", x.move(0, 1), 15);
        int[] left = {1, 0, 0, 30};
        int[] foot = {0, 3, 5, 0};
        for (int t = 0; t < 4; t++) {
            Check.due("look(" + t + ", 0)", x.look(t, 0), left[t]);
            Check.due("look(" + t + ", 1)", x.look(t, 1), foot[t]);
        }
        Check.due("edge(1, 0, 0)", x.edge(1, 0, 0), 2);
        Check.due("move(1, 3): it hangs, what is on it falls", x.move(1, 3), 9);
        Check.due("look(1, 0)", x.look(1, 0), 3);
        Check.due("there()", x.there(), 9);
        // Past what stands in between, and onto another one.
        TinTower y = Check.of("thing a 0 0 1 1 1;thing b 2 0 1 1 1;thing c 4 0 1 1 1;thing d 8 1 1 1 1;thing e 5 0 1 1 1;");
        Check.due("move(0, 7), d falls", y.move(0, 7), 23);
        TinTower z = Check.of("thing d 2 1 1 1 1;thing b 2 0 1 1 1;thing c 4 0 1 1 1;");
        Check.due("move(0, 2)", z.move(0, 2), 7);
        Check.due("edge(0, 2, 0)", z.edge(0, 2, 0), 8);
        Check.due("off the shelf", Check.of("shelf 4;thing a 3 0 1 1 1;").move(0, 1), 0);
    }

    private static void moveRefused() {
        Doc.says("P29", "NONE, and nothing happens: no such ones, by 0, it would be beyond 0 .. 39 or take up some of another one's there.");
        TinTower x = Check.of("shelf 40;thing a 3 0 2 2 1;thing b 7 0 2 2 1;thing c 38 0 2 1 1;thing h 20 9 1 1 1;");
        for (int thing : new int[] {4, 9, 32, -1, MIN, MAX}) {
            Check.due("move(" + thing + ", 1)", x.move(thing, 1), -1);
        }
        for (int by : new int[] {0, 10, -10, 20, MIN, MAX}) {
            Check.due("move(2, " + by + ")", x.move(2, by), -1);
        }
        int[][] wrong = {{0, -4}, {0, -9}, {2, 2}, {2, 9}, {0, 3}, {0, 4}, {0, 5}, {1, -3}, {1, -5}};
        for (int[] w : wrong) {
            Check.due("move(" + w[0] + ", " + w[1] + ")", x.move(w[0], w[1]), -1);
        }
        Check.due("there(): what hangs doesn't fall", x.there(), 15);
        Check.due("count(5)", x.count(5), 0);
        Check.due("look(0, 0)", x.look(0, 0), 3);
        Check.due("move(3, 1): it hangs", x.move(3, 1), 7);
        Check.due("move(0, 2): to the other one's end", x.move(0, 2), 7);
        Check.due("move(0, -5): to 0", x.move(0, -5), 7);
        Check.due("move(0, 9): beyond the other one", x.move(0, 9), 7);
        Check.due("move(2, 1): to 39, its heart at the shelf's end", x.move(2, 1), 7);
        Check.due("move(3, 1), gone", x.move(3, 1), -1);
        x.take(1);
        Check.due("move(0, -3): where b was", x.move(0, -3), 5);
        TinTower y = Check.of("thing a 0 0 2 1 1;thing b 0 1 2 1 1;thing c 2 0 2 2 1;");
        Check.due("move(1, 1): c is as high", y.move(1, 1), -1);
        Check.due("move(1, 2): c is as high", y.move(1, 2), -1);
        Check.due("move(1, 4): it hangs", y.move(1, 4), 5);
    }

    private static void undo() {
        Doc.says("P30", "The latest that can be undone is: how many are left;");
        TinTower x = Check.of(THREE);
        x.move(2, 1);
        x.pull(0);
        x.take(2);
        x.spree(1);
        Check.due("count(5)", x.count(5), 4);
        Check.due("undo() of spree", x.undo(), 3);
        Check.due("there()", x.there(), 2);
        Check.due("undo() of take", x.undo(), 2);
        Check.due("there()", x.there(), 6);
        Check.due("look(2, 1)", x.look(2, 1), 2);
        Check.due("undo() of pull", x.undo(), 1);
        Check.due("there()", x.there(), 7);
        Check.due("look(2, 1)", x.look(2, 1), 5);
        Check.due("look(2, 0)", x.look(2, 0), 1);
        Check.due("undo() of move", x.undo(), 0);
        Check.due("look(2, 0)", x.look(2, 0), 0);
        Check.due("edge(2, 1, 1)", x.edge(2, 1, 1), 4);
        Doc.says("P30", "NONE: none.");
        Check.due("undo()", x.undo(), -1);
        Check.due("there()", x.there(), 7);
    }

    private static void keepAndBack() {
        Doc.says("P32", "NONE: there is none.");
        TinTower x = Check.of(THREE);
        x.take(2);
        Check.due("back()", x.back(), -1);
        Check.due("there()", x.there(), 3);
        Check.due("undo()", x.undo(), 0);
        Doc.says("P31", "An IMAGE is kept (in place of one ahead): what is there (bits).");
        x.move(2, 1);
        Check.due("keep()", x.keep(), 7);
        Check.due("it is nothing to undo", x.count(5), 1);
        x.take(2);
        Doc.says("P32", "All is as in the IMAGE (nothing to undo then): what is there (bits);");
        Check.due("back()", x.back(), 7);
        Check.due("look(2, 0)", x.look(2, 0), 1);
        Check.due("undo()", x.undo(), -1);
        Check.due("count(5)", x.count(5), 0);
        x.take(1);
        Check.due("back() again", x.back(), 7);
        Check.due("back() of what is as in it", x.back(), 7);
        Doc.says("P31", "An IMAGE is kept (in place of one ahead): what is there (bits).");
        x.take(2);
        Check.due("keep() again", x.keep(), 3);
        x.take(0);
        Check.due("back()", x.back(), 3);
        x.take(0);
        Check.due("keep() of nothing", x.keep(), 0);
        x.undo();
        Check.due("there()", x.there(), 3);
        Check.due("back() to nothing", x.back(), 0);
    }

    private static void count() {
        Doc.says("P33", "0 THINGS of the TEXT, 1 the shelf's end, 2 KNOTS, 3 how many are there, 4 their WEIGHT, 5 what can be undone, 6 the highest top there (0).");
        TinTower x = Check.of("shelf 13;thing d 5 0 1 1 3;" + THREE + "child 1+weight;");
        int[][] due = {{4, 13, 3, 4, 10, 0, 6}, {4, 13, 3, 3, 9, 1, 5}, {4, 13, 3, 1, 3, 2, 1}, {4, 13, 3, 0, 0, 3, 0}};
        int[] takes = {3, 1, 0};
        for (int i = 0; i < 4; i++) {
            for (int what = 0; what < 7; what++) {
                Check.due("count(" + what + ") behind " + i, x.count(what), due[i][what]);
            }
            x.take(i < 3 ? takes[i] : -1);
        }
        Check.due("the first one's top", Check.of("thing h 0 7 1 1 1;thing a 5 0 1 1 1;").count(6), 8);
        Check.due("the greatest top", Check.of("thing h 0 39 1 12 1;").count(6), 51);
        Doc.says("P33", "NONE for another what.");
        for (int what : new int[] {7, 8, -1, MIN, MAX}) {
            Check.due("count(" + what + ")", x.count(what), -1);
        }
    }
}
