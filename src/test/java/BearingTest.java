/** Promises 7 to 12: edges, who stands on whom, what is there, bearing, what stands and what falls. */
public final class BearingTest {
    private static final long UNIT = 27720;
    /** Two tins, a box across them, a round on the second one and a small tin on the round. */
    private static final String WINDOW = "shelf 10;thing a 0 0 4 2 5;thing b 6 0 4 2 5;thing c 2 2 6 1 3;"
            + "thing r 8 2 2 2 1 round;thing d 8 4 2 1 1;";

    public static void main(String[] args) {
        edge();
        edgesOnTheShelf();
        edgesOnOthers();
        edgesOfRounds();
        above();
        there();
        bears();
        bearsCut();
        bearsAtAnEnd();
        bearsBeyond();
        bearsFirstOfSeveral();
        bearsSeveralFeet();
        bearsHearts();
        stands();
        standsHeld();
        standsWedged();
        falls();
        Check.end("BearingTest");
    }

    private static void dueEdge(TinTower x, int thing, int on, int a, int b) {
        Check.due("edge(" + thing + ", " + on + ", 0)", x.edge(thing, on, 0), a);
        Check.due("edge(" + thing + ", " + on + ", 1)", x.edge(thing, on, 1), b);
    }

    private static void edge() {
        TinTower x = Check.of(WINDOW);
        dueEdge(x, 0, -1, 0, 8);
        dueEdge(x, 1, -1, 12, 20);
        dueEdge(x, 2, 0, 4, 8);
        dueEdge(x, 2, 1, 12, 16);
        dueEdge(x, 3, 1, 18, 18);
        dueEdge(x, 4, 3, 18, 18);
        dueEdge(x, 2, -1, -2, -2);
        dueEdge(x, 0, 2, -2, -2);
        dueEdge(x, 4, 1, -2, -2);
        dueEdge(x, 2, 3, -2, -2);
        dueEdge(x, 2, 2, -1, -1);
        dueEdge(x, 5, 0, -1, -1);
        dueEdge(x, -1, 0, -1, -1);
        dueEdge(x, -1, -1, -1, -1);
        dueEdge(x, 0, 5, -1, -1);
        dueEdge(x, 0, -2, -1, -1);
        Check.due("edge(2, 0, 2)", x.edge(2, 0, 2), -1);
        Check.due("edge(2, 0, -1)", x.edge(2, 0, -1), -1);
        Check.due("edge(2, 3, 2)", x.edge(2, 3, 2), -1);
        Check.due("take(4)", x.take(4), 15);
        dueEdge(x, 4, 3, -1, -1);
        dueEdge(x, 3, 4, -1, -1);
        dueEdge(x, 4, -1, -1, -1);
    }

    private static void edgesOnTheShelf() {
        dueEdge(Check.of("shelf 3;thing a 1 0 4 1 1;"), 0, -1, 2, 6);
        dueEdge(Check.of("shelf 3;thing a 3 0 2 1 1;"), 0, -1, -2, -2);
        dueEdge(Check.of("shelf 3;thing a 0 1 2 1 1;"), 0, -1, -2, -2);
        dueEdge(Check.of("thing a 19 0 2 1 1;"), 0, -1, 38, 40);
        dueEdge(Check.of("shelf 3;thing a 2 0 2 1 1 round;"), 0, -1, 6, 6);
        dueEdge(Check.of("shelf 3;thing a 2 0 3 1 1 round;"), 0, -1, -2, -2);
        dueEdge(Check.of("shelf 3;thing a 0 0 1 1 1 round;"), 0, -1, 1, 1);
    }

    private static void edgesOnOthers() {
        dueEdge(Check.of("thing a 0 0 2 1 1;thing b 2 1 2 1 1;"), 1, 0, -2, -2);
        dueEdge(Check.of("thing a 3 0 2 1 1;thing b 1 1 2 1 1;"), 1, 0, -2, -2);
        dueEdge(Check.of("thing a 3 0 2 1 1;thing b 2 1 2 1 1;"), 1, 0, 6, 8);
        dueEdge(Check.of("thing a 3 0 2 1 1;thing b 0 1 9 1 1;"), 1, 0, 6, 10);
        dueEdge(Check.of("thing a 3 0 2 1 1;thing b 3 2 2 1 1;"), 1, 0, -2, -2);
        dueEdge(Check.of("thing a 1 0 9 3 1;thing b 3 3 2 1 1;"), 1, 0, 6, 10);
    }

    private static void edgesOfRounds() {
        dueEdge(Check.of("thing a 0 0 2 1 1;thing r 1 1 2 1 1 round;"), 1, 0, 4, 4);
        dueEdge(Check.of("thing a 2 0 2 1 1;thing r 1 1 2 1 1 round;"), 1, 0, 4, 4);
        dueEdge(Check.of("thing a 2 0 2 1 1;thing r 0 1 3 1 1 round;"), 1, 0, -2, -2);
        dueEdge(Check.of("thing r 0 0 2 2 1 round;thing b 1 2 2 1 1;"), 1, 0, 2, 2);
        dueEdge(Check.of("thing r 3 0 2 2 1 round;thing b 2 2 2 1 1;"), 1, 0, 8, 8);
        dueEdge(Check.of("thing r 0 0 3 2 1 round;thing b 2 2 2 1 1;"), 1, 0, -2, -2);
        dueEdge(Check.of("thing r 0 0 4 2 1 round;thing s 1 2 2 1 1 round;"), 1, 0, 4, 4);
        dueEdge(Check.of("thing r 0 0 4 2 1 round;thing s 0 2 2 1 1 round;"), 1, 0, -2, -2);
        dueEdge(Check.of("thing r 0 0 3 2 1 round;thing s 0 2 2 1 1 round;"), 1, 0, -2, -2);
    }

    private static void above() {
        TinTower x = Check.of(WINDOW);
        int[] due = {4, 12, 0, 16, 0};
        for (int t = 0; t < due.length; t++) {
            Check.due("above(" + t + ")", x.above(t), due[t]);
        }
        Check.due("above(5)", x.above(5), -1);
        Check.due("above(-1)", x.above(-1), -1);
        x.take(4);
        Check.due("above(3) without 4", x.above(3), 0);
        Check.due("above(4), gone", x.above(4), -1);
    }

    private static void there() {
        TinTower x = Check.of(WINDOW);
        Check.due("there()", x.there(), 31);
        x.take(3);
        Check.due("there() behind take(3)", x.there(), 7);
    }

    private static void bears() {
        TinTower x = Check.of(WINDOW);
        long[] loads = {5 * UNIT + 41580, 5 * UNIT + 41580 + 2 * UNIT, 3 * UNIT, 2 * UNIT, UNIT};
        long[] moments = {5 * UNIT * 4 + 41580 * 8, 5 * UNIT * 16 + 41580 * 12 + 2 * UNIT * 18, 3 * UNIT * 10,
            2 * UNIT * 18, UNIT * 18};
        for (int t = 0; t < 5; t++) {
            Check.due("bears(" + t + ", 0)", x.bears(t, 0), loads[t]);
            Check.due("bears(" + t + ", 1)", x.bears(t, 1), moments[t]);
            Check.due("bears(" + t + ", 2)", x.bears(t, 2), 0);
        }
        Check.due("bears(0, 3)", x.bears(0, 3), -2);
        Check.due("bears(0, -1)", x.bears(0, -1), -2);
        Check.due("bears(5, 0)", x.bears(5, 0), -1);
        Check.due("bears(-1, 3)", x.bears(-1, 3), -1);
        x.take(4);
        Check.due("bears(4, 0), gone", x.bears(4, 0), -1);
        Check.due("bears(3, 0) without 4", x.bears(3, 0), UNIT);
    }

    /** 13 HALVES between the edges: the next one's part is cut, the one ahead has the rest. */
    private static void bearsCut() {
        TinTower x = Check.of("shelf 12;thing a 0 0 2 1 1;thing r 6 0 5 1 1 round;thing c 0 1 12 1 1;");
        Check.due("bears(0, 0)", x.bears(0, 0), UNIT + 10662);
        Check.due("bears(0, 1)", x.bears(0, 1), UNIT * 2 + 10662 * 4);
        Check.due("bears(1, 0)", x.bears(1, 0), UNIT + 17058);
        Check.due("bears(1, 1)", x.bears(1, 1), (UNIT + 17058) * 17);
        Check.due("bears(2, 2)", x.bears(2, 2), 0);
    }

    private static void bearsAtAnEnd() {
        TinTower right = Check.of("thing a 2 0 2 1 1;thing b 2 1 4 1 1;");
        Check.due("at its right end", right.bears(1, 2), 0);
        Check.due("its moment goes on", right.bears(0, 1), UNIT * 6 + UNIT * 8);
        Check.due("beyond its right end", Check.of("thing a 2 0 2 1 1;thing b 2 1 4 1 1 heart 5;").bears(1, 2), 1);
        Check.due("at its left end", Check.of("thing a 4 0 2 1 1;thing b 2 1 4 1 1;").bears(1, 2), 0);
        Check.due("beyond its left end", Check.of("thing a 4 0 2 1 1;thing b 2 1 4 1 1 heart 3;").bears(1, 2), 1);
        Check.due("at the shelf's end", Check.of("shelf 4;thing a 2 0 4 1 1;").bears(0, 2), 0);
        Check.due("beyond the shelf's end", Check.of("shelf 4;thing a 2 0 4 1 1 heart 5;").bears(0, 2), 1);
    }

    /** What falls pushes nothing, but its own load is still told. */
    private static void bearsBeyond() {
        TinTower x = Check.of("thing a 0 0 2 1 5;thing b 1 1 4 1 3;thing c 9 3 1 1 2;thing d 1 2 1 1 1;");
        Check.due("bears(1, 2)", x.bears(1, 2), 1);
        Check.due("bears(1, 0)", x.bears(1, 0), 4 * UNIT);
        Check.due("bears(1, 1)", x.bears(1, 1), 3 * UNIT * 6 + UNIT * 3);
        Check.due("bears(0, 0)", x.bears(0, 0), 5 * UNIT);
        Check.due("bears(0, 1)", x.bears(0, 1), 5 * UNIT * 2);
        Check.due("bears(2, 2)", x.bears(2, 2), 2);
        Check.due("bears(2, 0)", x.bears(2, 0), 2 * UNIT);
        Check.due("bears(3, 2)", x.bears(3, 2), 0);
        Check.due("off the shelf", Check.of("shelf 3;thing a 4 0 2 1 1;").bears(0, 2), 2);
    }

    private static void bearsFirstOfSeveral() {
        TinTower x = Check.of("thing a 2 0 2 1 1;thing b 0 0 2 1 1;thing r 1 1 2 1 1 round;");
        Check.due("the first by numbers", x.bears(0, 0), 2 * UNIT);
        Check.due("the second by numbers", x.bears(1, 0), UNIT);
        TinTower y = Check.of("thing a 2 0 2 1 1;thing b 0 0 2 1 1;thing c 1 1 2 1 1;");
        Check.due("the first from the left", y.bears(1, 0), 2 * UNIT);
        Check.due("the second from the left", y.bears(0, 0), UNIT);
    }

    /** Between the middle and the last of three. */
    private static void bearsSeveralFeet() {
        TinTower x = Check.of("thing c 8 0 1 1 1;thing a 0 0 1 1 1;thing b 3 0 1 1 1;thing d 0 1 9 1 1 heart 12;");
        Check.due("d stands", x.bears(3, 2), 0);
        Check.due("the first bears itself alone", x.bears(1, 0), UNIT);
        Check.due("the middle", x.bears(2, 0), UNIT + UNIT / 2);
        Check.due("the last", x.bears(0, 0), UNIT + UNIT / 2);
        Check.due("the middle's moment", x.bears(2, 1), UNIT * 7 + UNIT / 2 * 8);
        Check.due("the last's moment", x.bears(0, 1), UNIT * 17 + UNIT / 2 * 16);
    }

    private static void bearsHearts() {
        TinTower x = Check.of("thing a 1 0 3 1 2 heart 0;thing b 4 0 3 1 2 heart 6;thing c 7 0 3 1 2;");
        Check.due("heart 0", x.bears(0, 1), 2 * UNIT * 2);
        Check.due("heart 6", x.bears(1, 1), 2 * UNIT * 14);
        Check.due("no heart told", x.bears(2, 1), 2 * UNIT * 17);
    }

    private static void dueStands(TinTower x, int set, int held, int wedged, int due) {
        Check.due("stands(" + set + ", " + held + ", " + wedged + ")", x.stands(set, held, wedged), due);
    }

    private static void stands() {
        TinTower x = Check.of(WINDOW);
        dueStands(x, 31, 0, 0, 1);
        dueStands(x, 0, 0, 0, 1);
        dueStands(x, 3, 0, 0, 1);
        dueStands(x, 4, 0, 0, 0);
        dueStands(x, 5, 0, 0, 0);
        dueStands(x, 26, 0, 0, 1);
        dueStands(x, 24, 0, 0, 0);
        dueStands(x, 32, 0, 0, -1);
        dueStands(x, -1, 0, 0, -1);
        dueStands(x, 0, 32, 0, -1);
        dueStands(x, 0, 0, 64, -1);
        dueStands(x, 0, 0, Integer.MIN_VALUE, -1);
        x.take(4);
        dueStands(x, 31, 0, 0, 1);
    }

    /** The board tips over the shelf's end but for the weight at its left: held, that pushes nothing. */
    private static void standsHeld() {
        TinTower x = Check.of("shelf 4;thing a 2 0 6 1 1;thing b 2 1 1 1 9;");
        dueStands(x, 3, 0, 0, 1);
        dueStands(x, 1, 0, 0, 0);
        dueStands(x, 1, 1, 0, 1);
        dueStands(x, 1, 2, 0, 0);
        dueStands(x, 3, 2, 0, 0);
        dueStands(x, 3, 3, 0, 1);
        dueStands(x, 2, 0, 0, 0);
        dueStands(x, 2, 2, 0, 1);
        dueStands(x, 3, 2, 1, 1);
    }

    private static void standsWedged() {
        TinTower light = Check.of("shelf 4;thing b 2 0 4 1 1 heart 0;thing c 5 1 4 1 9;");
        dueStands(light, 3, 0, 0, 0);
        dueStands(light, 3, 0, 2, 0);
        dueStands(light, 3, 0, 3, 1);
        TinTower heavy = Check.of("shelf 4;thing b 2 0 4 1 50 heart 0;thing c 5 1 4 1 9;");
        dueStands(heavy, 3, 0, 0, 0);
        dueStands(heavy, 3, 0, 2, 1);
        dueStands(heavy, 2, 0, 2, 0);
        dueStands(heavy, 2, 2, 2, 1);
        // The wedged board goes on at its left end, just at the end of the post below it.
        TinTower left = Check.of("shelf 6;thing p 4 0 4 1 1;thing b 2 1 3 1 7 heart 0;");
        dueStands(left, 3, 0, 0, 0);
        dueStands(left, 3, 0, 2, 1);
        dueStands(Check.of("shelf 9;thing p 4 0 1 1 1;thing q 1 1 5 1 1;thing b 0 2 2 1 7 heart 0;"), 7, 0, 4, 0);
        dueStands(Check.of("shelf 9;thing p 4 0 1 1 1;thing q 1 1 5 1 1;thing b 0 2 2 1 7 heart 0;"), 7, 0, 6, 1);
    }

    private static void dueFalls(TinTower x, int set, int... due) {
        for (int what = 0; what < due.length; what++) {
            Check.due("falls(" + set + ", " + what + ")", x.falls(set, what), due[what]);
        }
    }

    private static void falls() {
        TinTower x = Check.of("thing a 0 0 2 2 1;thing b 0 2 2 2 1;thing c 0 4 2 2 1;thing d 5 0 1 1 1;thing e 0 6 1 1 1;");
        dueFalls(x, 31, 0, 0, 0, 0);
        dueFalls(x, 30, 22, 3, 2, 4, 16, 0, 0);
        dueFalls(x, 29, 20, 2, 4, 16, 0);
        dueFalls(x, 28, 20, 2, 4, 16, 0);
        dueFalls(x, 26, 18, 1, 18, 0);
        dueFalls(x, 0, 0, 0, 0);
        Check.due("falls(31, 1000)", x.falls(31, 1000), 0);
        Check.due("falls(30, MAX_VALUE)", x.falls(30, Integer.MAX_VALUE), 0);
        Check.due("falls(31, -1)", x.falls(31, -1), -1);
        Check.due("falls(32, 0)", x.falls(32, 0), -1);
        Check.due("falls(-1, 0)", x.falls(-1, 0), -1);
        x.take(0);
        dueFalls(x, 31, 0, 0, 0);
    }
}
