/** Promises 19 to 23: things pulled out, by which most hangs, the highest piles, those that reach over the edge. */
public final class ShapeTest {
    private static final String THREE = "thing a 0 0 2 3 1;thing b 0 3 2 2 1;thing c 0 5 2 1 1;";

    public static void main(String[] args) {
        pulled();
        pulledLosing();
        pulledOntoRounds();
        pulledKeepingAnEdge();
        pulledInTurn();
        pulledHangsLow();
        drops();
        hangs();
        highest();
        highestOfSeveral();
        highestOfRounds();
        over();
        overOfThree();
        overOfRounds();
        overOfHearts();
        Check.end("ShapeTest");
    }

    private static void dueDrops(TinTower x, int thing, int other, int due) {
        Check.due("drops(" + thing + ", " + other + ")", x.drops(thing, other), due);
    }

    private static void pulled() {
        TinTower x = Check.of(THREE);
        Check.due("pulled(0)", x.pulled(0), 6);
        Check.due("pulled(1)", x.pulled(1), 5);
        Check.due("pulled(2)", x.pulled(2), 3);
        Check.due("pulled(3)", x.pulled(3), -1);
        Check.due("pulled(-1)", x.pulled(-1), -1);
        Check.due("it pulls nothing", x.there(), 7);
        Check.due("it moves nothing", x.look(1, 1), 3);
        x.take(2);
        Check.due("pulled(2), gone", x.pulled(2), -1);
    }

    private static void pulledLosing() {
        TinTower x = Check.of("shelf 4;thing a 2 0 5 2 9 heart 0;thing b 5 2 2 1 1;thing c 3 2 2 1 1;");
        Check.due("pulled(0)", x.pulled(0), 4);
        dueDrops(x, 0, 1, -2);
        dueDrops(x, 0, 2, 0);
        TinTower y = Check.of("shelf 4;thing a 0 0 5 2 9 heart 0;thing b 4 2 2 1 1;thing c 4 3 3 1 1;");
        Check.due("all is lost", y.pulled(0), 0);
        dueDrops(y, 0, 1, -2);
        dueDrops(y, 0, 2, -2);
        TinTower z = Check.of("shelf 4;thing a 0 0 5 2 9 heart 0;thing b 3 2 2 1 1 heart 4;");
        Check.due("it has come down, then it tips", z.pulled(0), 0);
        dueDrops(z, 0, 1, 0);
    }

    /** Coming down a round one counts with all that it takes up; it then may hang by its side. */
    private static void pulledOntoRounds() {
        TinTower x = Check.of("thing r 0 0 3 2 1 round;thing b 2 5 3 1 1;thing z 9 0 1 1 1;");
        dueDrops(x, 2, 1, 2);
        dueDrops(x, 2, 0, 0);
        Check.due("pulled(2)", x.pulled(2), 1);
        TinTower y = Check.of("thing a 0 0 3 2 1;thing r 2 5 4 1 1 round;thing z 9 0 1 1 1;");
        dueDrops(y, 2, 1, 2);
        Check.due("pulled(2): the round hangs by its side", y.pulled(2), 1);
        TinTower w = Check.of("thing a 0 0 3 2 1;thing r 3 5 4 1 1 round;thing z 9 0 1 1 1;");
        dueDrops(w, 2, 1, 0);
        Check.due("pulled(2): the round beside it", w.pulled(2), 3);
    }

    private static void pulledKeepingAnEdge() {
        TinTower x = Check.of("thing a 0 0 2 2 1;thing b 6 0 2 2 1;thing c 0 2 8 1 1;");
        dueDrops(x, 0, 2, 2);
        Check.due("pulled(0): the board tips", x.pulled(0), 2);
    }

    private static void pulledInTurn() {
        // The lower one comes down first, what is above it then upon it.
        TinTower x = Check.of("thing c 0 7 2 1 1;thing b 0 4 2 2 1;thing z 9 0 1 1 1;thing a 1 0 4 1 1;");
        dueDrops(x, 2, 1, 1);
        dueDrops(x, 2, 0, 3);
        Check.due("pulled(2)", x.pulled(2), 11);
        // What hung ahead and found its place keeps it.
        TinTower y = Check.of(THREE + "thing h 1 9 4 1 1;");
        dueDrops(y, 1, 2, 3);
        dueDrops(y, 1, 3, 4);
        Check.due("pulled(1)", y.pulled(1), 5);
    }

    /** At FOOT 0 beyond the shelf a thing can come to nowhere. */
    private static void pulledHangsLow() {
        TinTower x = Check.of("shelf 3;thing a 3 0 2 1 1;thing b 3 1 2 1 1;thing z 0 0 1 1 1;");
        dueDrops(x, 2, 0, -2);
        dueDrops(x, 2, 1, -2);
        Check.due("pulled(2)", x.pulled(2), 0);
    }

    private static void drops() {
        TinTower x = Check.of(THREE);
        dueDrops(x, 0, 1, 0);
        dueDrops(x, 0, 2, 2);
        dueDrops(x, 1, 0, 0);
        dueDrops(x, 1, 2, 3);
        dueDrops(x, 2, 1, 3);
        dueDrops(x, 1, 1, -1);
        dueDrops(x, 3, 0, -1);
        dueDrops(x, 0, 3, -1);
        dueDrops(x, -1, 0, -1);
        dueDrops(x, 0, -1, -1);
        x.take(2);
        dueDrops(x, 0, 2, -1);
        dueDrops(x, 2, 0, -1);
    }

    private static void hangs() {
        TinTower x = Check.of(THREE + "thing d 5 0 2 1 1;thing e 5 1 2 1 1;");
        Check.due("hangs(0)", x.hangs(0), 0);
        Check.due("hangs(1)", x.hangs(1), 2);
        Check.due("hangs(2)", x.hangs(2), -1);
        Check.due("hangs(-1)", x.hangs(-1), -1);
        x.take(1);
        Check.due("hangs(0) behind take(1)", x.hangs(0), 3);
        Check.due("hangs(1) behind take(1)", x.hangs(1), 1);
        x.take(4);
        Check.due("hangs(0) of two apart", x.hangs(0), 0);
        Check.due("hangs(1) of two apart", x.hangs(1), 0);
        x.spree(2);
        Check.due("hangs(0) of none", x.hangs(0), -1);
        Check.due("hangs(1) of none", x.hangs(1), -1);
        TinTower two = Check.of("thing a 0 0 2 1 1;thing b 5 0 2 1 1;thing c 5 1 2 1 1;thing d 8 0 1 1 1;thing e 8 1 1 1 1;");
        Check.due("the first of several", two.hangs(0), 1);
        TinTower hung = Check.of("thing a 0 0 2 1 1;thing b 5 3 2 1 1;");
        Check.due("what hangs already falls too", hung.hangs(1), 1);
    }

    private static void dueHighest(TinTower x, int set, int high, int which) {
        Check.due("highest(" + set + ", 0)", x.highest(set, 0), high);
        Check.due("highest(" + set + ", 1)", x.highest(set, 1), which);
    }

    private static void highest() {
        TinTower x = Check.of("thing a 0 0 4 2 1;thing b 5 0 3 1 1;thing c 9 0 2 2 1 round;thing d 12 0 1 1 1;");
        dueHighest(x, 15, 7, 3);
        dueHighest(x, 13, 5, 9);
        dueHighest(x, 14, 3, 2);
        dueHighest(x, 8, 1, 8);
        dueHighest(x, 0, 0, 0);
        dueHighest(x, 16, -1, -1);
        dueHighest(x, -1, -1, -1);
        Check.due("highest(15, 2)", x.highest(15, 2), -1);
        Check.due("highest(15, -1)", x.highest(15, -1), -1);
        x.take(0);
        dueHighest(x, 15, 7, 3);
        dueHighest(new TinTower(), 0, 0, 0);
    }

    private static void highestOfSeveral() {
        TinTower x = Check.of("thing s 0 0 2 2 1 round;thing a 5 0 3 1 1;thing r 9 0 3 3 1 round;");
        dueHighest(x, 7, 3, 2);
        dueHighest(x, 5, 3, 4);
        dueHighest(x, 3, 3, 2);
        // As wide as the one below it nothing stands on another one.
        dueHighest(Check.of("thing a 0 0 3 3 1;thing b 3 0 3 3 1;"), 3, 3, 1);
        dueHighest(Check.of("thing b 3 0 2 3 1;thing a 0 0 3 3 1;"), 3, 6, 3);
        StringBuilder nine = new StringBuilder();
        for (int i = 0; i < 9; i++) {
            nine.append("thing ").append((char) ('a' + i)).append(' ').append(i * (i + 1) / 2).append(" 0 ").append(i + 1).append(" 12 1;");
        }
        dueHighest(Check.of(nine.toString()), 511, 9 * 12, 511);
    }

    private static void highestOfRounds() {
        dueHighest(Check.of("thing r 0 0 9 9 1 round;thing a 12 0 2 3 1;"), 3, 9, 1);
        dueHighest(Check.of("thing r 0 0 2 5 1 round;thing a 12 0 3 1 1;"), 3, 6, 3);
        dueHighest(Check.of("thing r 0 0 5 2 1 round;thing a 12 0 3 1 1;"), 3, 6, 3);
    }

    private static void over() {
        TinTower x = Check.of("shelf 5;thing a 0 0 4 1 1;thing b 4 0 4 2 1;thing c 8 0 4 1 5;");
        Check.due("over(0, 1, -1)", x.over(0, 1, -1), 3);
        // The heavy one upon it, 2 to the left, holds the lower one, which goes from -1 to 3.
        Check.due("over(0, 2, -1)", x.over(0, 2, -1), 3);
        Check.due("over(2, 0, -1)", x.over(2, 0, -1), 3);
        Check.due("over(0, 0, -1)", x.over(0, 0, -1), -1);
        Check.due("over(3, 0, -1)", x.over(3, 0, -1), -1);
        Check.due("over(0, 3, -1)", x.over(0, 3, -1), -1);
        Check.due("over(-1, 0, -1)", x.over(-1, 0, -1), -1);
        Check.due("over(0, -1, -1)", x.over(0, -1, -1), -1);
        Check.due("over(0, -1, 1)", x.over(0, -1, 1), -1);
        Check.due("over(0, 1, -2)", x.over(0, 1, -2), -1);
        Check.due("over(0, 1, 3)", x.over(0, 1, 3), -1);
        Check.due("over(0, 1, 0)", x.over(0, 1, 0), -1);
        Check.due("over(0, 1, 1)", x.over(0, 1, 1), -1);
        x.take(0);
        Check.due("over(0, 1, -1) of told ones", x.over(0, 1, -1), 3);
        Check.due("over of long ones", Check.of("thing a 0 0 12 1 1;thing b 12 0 12 1 1;").over(0, 1, -1), 9);
        Check.due("over: the lower one reaches farther",
                Check.of("thing a 0 0 12 1 1;thing b 12 0 1 1 99;").over(0, 1, -1), 11);
    }

    private static void overOfThree() {
        TinTower x = Check.of("thing a 0 0 4 1 1;thing b 4 0 4 2 1;thing c 8 0 4 1 1;");
        Check.due("over(0, 1, 2)", x.over(0, 1, 2), 3);
        TinTower y = Check.of("thing a 0 0 12 1 1;thing b 12 0 12 1 1;thing c 24 0 12 1 1;");
        // 6 and 3 and 2 halves of 12 by the old rule.
        Check.due("over of three long ones", y.over(0, 1, 2), 11);
    }

    private static void overOfRounds() {
        TinTower x = Check.of("thing a 0 0 4 1 1;thing r 5 0 2 2 1 round;thing s 8 0 3 3 1 round;thing q 12 0 4 4 1 round;");
        Check.due("a round on a board's left end", x.over(0, 1, -1), 3);
        Check.due("a board on a round", x.over(1, 0, -1), 2);
        Check.due("rounds that never are alike", x.over(1, 2, -1), -1);
        Check.due("rounds that are", x.over(1, 3, -1), 2);
        Check.due("a round whose middle is no whole", x.over(2, 0, -1), -1);
        Check.due("a board between two rounds", x.over(1, 0, 3), 3);
    }

    private static void overOfHearts() {
        Check.due("a round with its heart beside never stands",
                Check.of("thing r 0 0 2 2 1 round heart 0;thing a 5 0 4 1 1;").over(1, 0, -1), -1);
        Check.due("hearts at the left reach far",
                Check.of("thing a 0 0 4 1 1 heart 0;thing b 5 0 4 1 1 heart 0;").over(0, 1, -1), 5);
        Check.due("hearts at the right don't: the upper one is 3 to the left",
                Check.of("thing a 0 0 4 1 1 heart 8;thing b 5 0 4 1 1 heart 8;").over(0, 1, -1), 1);
    }
}
