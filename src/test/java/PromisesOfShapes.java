/** Promises 19 to 23. */
final class PromisesOfShapes {
    private static final String THREE = "thing a 0 0 2 3 1;thing b 0 3 2 2 1;thing c 0 5 2 1 1;";
    private static final int MIN = Integer.MIN_VALUE;
    private static final int MAX = Integer.MAX_VALUE;
    private static final int[] NO_THINGS = {3, 4, 9, 32, -1, MIN, MAX};

    private PromisesOfShapes() {
    }

    static void run() {
        pulled();
        drops();
        hangs();
        highest();
        over();
    }

    private static void pulled() {
        Doc.says("P19", "WHAT would be left there, were a THING PULLED out: bits;");
        TinTower x = Check.of(THREE);
        Check.due("pulled(0)", x.pulled(0), 6);
        Check.due("pulled(1)", x.pulled(1), 5);
        Check.due("pulled(2)", x.pulled(2), 3);
        Check.due("it pulls nothing", x.there(), 7);
        Check.due("it moves nothing", x.look(1, 1), 3);
        Check.due("there is nothing to undo", x.undo(), -1);
        Check.due("pulled() of the only one", Check.of("thing a 0 0 1 1 1;").pulled(0), 0);
        Doc.says("P19", "NONE: no such one there.");
        for (int thing : NO_THINGS) {
            Check.due("pulled(" + thing + ")", x.pulled(thing), -1);
        }
        x.take(2);
        Check.due("pulled(2), gone", x.pulled(2), -1);
    }

    private static void drops() {
        Doc.says("P20", "The FOOT of another one there, were a THING PULLED out (ahead of what falls then);");
        TinTower x = Check.of(THREE);
        int[][] due = {{-1, 0, 2}, {0, -1, 3}, {0, 3, -1}};
        for (int t = 0; t < 3; t++) {
            for (int u = 0; u < 3; u++) {
                Check.due("drops(" + t + ", " + u + ")", x.drops(t, u), due[t][u]);
            }
        }
        Check.due("it moves nothing", x.look(2, 1), 5);
        Check.due("it comes down, then it tips", Check.of("shelf 4;thing z 0 0 1 1 1;thing h 3 5 4 1 1;").drops(0, 1), 0);
        Check.due("it stays, then it tips",
                Check.of("thing a 0 0 2 2 1;thing b 6 0 2 2 1;thing c 0 2 8 1 1;").drops(0, 2), 2);
        Doc.says("P20", "-2: it is lost;");
        Check.due("drops(0, 1)", Check.of("shelf 4;thing z 0 0 1 1 1;thing h 4 5 4 1 1;").drops(0, 1), -2);
        Doc.says("P20", "NONE: no such ones there, both the same.");
        for (int thing : NO_THINGS) {
            Check.due("drops(" + thing + ", 0)", x.drops(thing, 0), -1);
            Check.due("drops(0, " + thing + ")", x.drops(0, thing), -1);
            Check.due("drops(" + thing + ", " + thing + ")", x.drops(thing, thing), -1);
        }
        x.take(2);
        Check.due("drops(0, 2), gone", x.drops(0, 2), -1);
        Check.due("drops(2, 0), gone", x.drops(2, 0), -1);
    }

    private static void hangs() {
        Doc.says("P21", "MOST, what 0: the THING, 1: how many FALL.");
        TinTower x = Check.of(THREE + "thing d 5 0 2 1 1;thing e 5 1 2 1 1;");
        Check.due("hangs(0)", x.hangs(0), 0);
        Check.due("hangs(1)", x.hangs(1), 2);
        x.take(1);
        Check.due("hangs(0) behind take(1)", x.hangs(0), 3);
        Check.due("hangs(1) behind take(1)", x.hangs(1), 1);
        x.take(4);
        Check.due("hangs(0): by none any falls", x.hangs(0), 0);
        Check.due("hangs(1): by none any falls", x.hangs(1), 0);
        x.take(0);
        Check.due("hangs(0) of one", x.hangs(0), 3);
        Check.due("hangs(1) of one", x.hangs(1), 0);
        Doc.says("P21", "NONE: nothing is there, no such what.");
        for (int what : new int[] {2, 3, -1, MIN, MAX}) {
            Check.due("hangs(" + what + ")", x.hangs(what), -1);
        }
        x.take(3);
        Check.due("hangs(0) of nothing", x.hangs(0), -1);
        Check.due("hangs(1) of nothing", x.hangs(1), -1);
    }

    private static void highest() {
        Doc.says("P22", "HIGHEST of told THINGS (bits), what 0: how high, 1: which (bits).");
        TinTower x = Check.of("thing a 0 0 4 4 1;thing b 4 0 3 3 1;thing c 7 0 9 1 1 round;");
        int[][] due = {{0, 0, 0}, {1, 4, 1}, {2, 3, 2}, {3, 7, 3}, {4, 9, 4}, {5, 13, 5}, {6, 12, 6}, {7, 16, 7}};
        for (int[] d : due) {
            Check.due("highest(" + d[0] + ", 0)", x.highest(d[0], 0), d[1]);
            Check.due("highest(" + d[0] + ", 1)", x.highest(d[0], 1), d[2]);
        }
        x.take(1);
        Check.due("those that are told, there or not", x.highest(7, 1), 7);
        Check.due("none of them behind that", x.highest(0, 1), 0);
        Doc.says("P22", "NONE: no such ones.");
        for (int set : new int[] {8, 15, 512, -1, MIN, MAX}) {
            Check.due("highest(" + set + ", 0)", x.highest(set, 0), -1);
            Check.due("highest(" + set + ", 1)", x.highest(set, 1), -1);
        }
        for (int what : new int[] {2, 3, -1, MIN, MAX}) {
            Check.due("highest(7, " + what + ")", x.highest(7, what), -1);
        }
    }

    private static void over() {
        Doc.says("P23", "OVER of two or three THINGS (unlike ones; third NONE without);");
        TinTower x = Check.of("thing a 0 0 12 1 1;thing b 0 1 12 1 1;thing c 0 2 12 1 1;");
        Check.due("over(0, 1, -1)", x.over(0, 1, -1), 9);
        Check.due("over(1, 2, -1)", x.over(1, 2, -1), 9);
        Check.due("over(0, 1, 2)", x.over(0, 1, 2), 11);
        Check.due("over(2, 0, 1)", x.over(2, 0, 1), 11);
        x.take(0);
        Check.due("those that are told, there or not", x.over(0, 1, 2), 11);
        TinTower y = Check.of("thing a 0 0 12 1 1;thing b 0 1 1 1 99;thing c 0 2 2 1 50;");
        Check.due("over(0, 1, 2) of unlike ones", y.over(0, 1, 2), 11);
        Check.due("over(1, 2, 0) of unlike ones", y.over(1, 2, 0), 6);
        Check.due("over(2, 1, 0) of unlike ones", y.over(2, 1, 0), 6);
        Check.due("over(2, 0, 1) of unlike ones", y.over(2, 0, 1), 11);
        Doc.says("P23", "NONE: no such ones.");
        int[][] wrong = {{0, 0, -1}, {1, 1, 2}, {0, 1, 0}, {0, 1, 1}, {2, 2, 2}, {0, 1, -2}, {0, 1, MIN}, {0, 1, MAX}};
        for (int[] w : wrong) {
            Check.due("over(" + w[0] + ", " + w[1] + ", " + w[2] + ")", x.over(w[0], w[1], w[2]), -1);
        }
        for (int thing : NO_THINGS) {
            Check.due("over(" + thing + ", 0, -1)", x.over(thing, 0, -1), -1);
            Check.due("over(0, " + thing + ", -1)", x.over(0, thing, -1), -1);
            Check.due("over(" + thing + ", 0, 1)", x.over(thing, 0, 1), -1);
            Check.due("over(0, " + thing + ", 1)", x.over(0, thing, 1), -1);
            Check.due("over(0, 1, " + thing + ")", x.over(0, 1, thing), thing == -1 ? 9 : -1);
        }
    }
}
