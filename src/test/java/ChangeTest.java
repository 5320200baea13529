/** Promises 24 to 33: the child, what changes what is there, what is undone, images, counts. */
public final class ChangeTest {
    private static final String THREE = "thing a 0 0 2 3 4;thing b 0 3 2 2 2;thing c 0 5 2 1 1;";
    private static final long ERROR = Long.MIN_VALUE;

    public static void main(String[] args) {
        values();
        signs();
        errors();
        names();
        wish();
        child();
        spree();
        spreeTakesAnew();
        take();
        pull();
        move();
        moveFalls();
        undo();
        undoWhatChanged();
        undoThirty();
        images();
        count();
        Check.end("ChangeTest");
    }

    private static void dueValue(String e, long due) {
        Check.due("wish(0) by " + e, Check.of("thing a 3 0 4 2 7 rough 6;child " + e + ";").wish(0), due);
    }

    private static void values() {
        dueValue("1+2*3", 7);
        dueValue("(1+2)*3", 9);
        dueValue("2*3+4", 10);
        dueValue("1-2-3", -4);
        dueValue("1-(2-3)", 2);
        dueValue("8/4/2", 1);
        dueValue("8/(4/2)", 4);
        dueValue("8/3*3", 6);
        dueValue("7/2", 3);
        dueValue("(0-7)/2", -3);
        dueValue("7/(0-2)", -3);
        dueValue("0/5", 0);
        dueValue("(0-5)*3", -15);
        dueValue("0*(0-5)", 0);
    }

    private static void signs() {
        String[] signs = {"<", "<=", "=", "<>", ">=", ">"};
        int[][] due = {{1, 0, 0}, {1, 1, 0}, {0, 1, 0}, {1, 0, 1}, {0, 1, 1}, {0, 0, 1}};
        for (int i = 0; i < signs.length; i++) {
            for (int a = 0; a < 3; a++) {
                dueValue(a + " " + signs[i] + " 1", due[i][a]);
            }
        }
        dueValue("1+1<3", 1);
        dueValue("3<1+1", 0);
        dueValue("not 0", 1);
        dueValue("not 5", 0);
        dueValue("not not 5", 1);
        dueValue("not 1=2", 1);
        dueValue("not 0+1", 0);
        dueValue("not 1 and 0", 0);
        dueValue("not (1 and 0)", 1);
        dueValue("2 and 3", 1);
        dueValue("2 and 0", 0);
        dueValue("0 and 2", 0);
        dueValue("0 or 4", 1);
        dueValue("4 or 0", 1);
        dueValue("0 or 0", 0);
        dueValue("1 or 1 and 0", 1);
        dueValue("(1 or 1) and 0", 0);
        dueValue("0 and 1 or 1", 1);
        dueValue("(0-2) and 1", 1);
        dueValue("1<2 and 3>2 or 0", 1);
        dueValue("(1<2)+(2<3)", 2);
    }

    private static void errors() {
        dueValue("1/0", ERROR);
        dueValue("0 and 1/0", ERROR);
        dueValue("1 or 1/0", ERROR);
        dueValue("not (1/0)", ERROR);
        dueValue("1/(3-left)", ERROR);
        dueValue("9999*9999*9999", 999700029999L);
        dueValue("9999*9999*9999*2", ERROR);
        dueValue("9999*9999*9999+9999*9999*4", ERROR);
        dueValue("1000*1000*1000*1000", 1000000000000L);
        dueValue("1000*1000*1000*1000+1", ERROR);
        dueValue("0-1000*1000*1000*1000", -1000000000000L);
        dueValue("0-1000*1000*1000*1000-1", ERROR);
        dueValue("(1000*1000*1000*1000+1)-1", ERROR);
        dueValue("1000*1000*1000*1000*(1000*1000*1000*1000)", ERROR);
        dueValue("(0-1000*1000*1000*1000)*(1000*1000*1000*1000)", ERROR);
        dueValue("1000*1000*1000*1000*(0-1)", -1000000000000L);
        dueValue("2*(500*1000*1000*1000)", 1000000000000L);
        dueValue("2*(500*1000*1000*1000+1)", ERROR);
        dueValue("1000*1000*1000*1000/3", 333333333333L);
    }

    private static void names() {
        TinTower x = Check.of("thing p 1 0 9 2 5;thing a 3 2 4 3 7 rough 6;thing c 3 5 1 1 2;thing d 6 5 1 1 2;"
                + "child weight*1000*1000*1000+wide*1000*1000*100+high*1000*1000*10+left*1000*1000+foot*100*1000"
                + "+above*10*1000+load*100+rough;");
        Check.due("wish(0)", x.wish(0), 5921011605L);
        Check.due("wish(1)", x.wish(1), 7433221106L);
        Check.due("wish(2)", x.wish(2), 2113500205L);
        x.take(3);
        Check.due("wish(1) with less upon it", x.wish(1), 7433210906L);
        x.move(2, 1);
        Check.due("wish(2) moved", x.wish(2), 2114500205L);
        // A round one stands on neither post: it hangs, and so what is on it pushes nothing but it.
        TinTower y = Check.of("thing p 0 0 1 1 1;thing q 7 0 1 1 1;thing b 1 1 6 1 1 round heart 6;thing c 0 2 8 1 1 heart 8;child load;");
        Check.due("one that hangs bears what is on it", y.wish(2), 2);
        Check.due("what falls pushes nothing", y.wish(0), 1);
        // The posts bear a half of 27720 and more or less beside their own: cut to whole ones.
        TinTower z = Check.of("thing p 0 0 1 1 1;thing q 4 0 1 1 1;thing b 0 1 5 1 1 heart 6;child load;");
        Check.due("less than a whole one", z.wish(0), 1);
        Check.due("less than a whole one more", z.wish(1), 1);
        Check.due("round ones and rough ones", Check.of("thing r 0 0 2 2 1 round;child rough;").wish(0), 5);
    }

    private static void wish() {
        TinTower x = Check.of("thing a 0 0 1 1 1;thing b 2 0 1 1 3;child weight;");
        Check.due("wish(1)", x.wish(1), 3);
        Check.due("wish(2)", x.wish(2), ERROR);
        Check.due("wish(-1)", x.wish(-1), ERROR);
        x.take(1);
        Check.due("wish(1), gone", x.wish(1), ERROR);
        Check.due("wish(0)", x.wish(0), 1);
        Check.due("no child", Check.of("thing a 0 0 1 1 1;").wish(0), ERROR);
    }

    private static void dueChild(String e, int due) {
        Check.due("child() by " + e, Check.of("thing a 0 0 1 1 1;thing b 2 0 1 1 3;thing c 4 0 1 1 2;" + e).child(), due);
    }

    private static void child() {
        dueChild("", 0);
        dueChild("child weight;", 1);
        dueChild("child left;", 2);
        dueChild("child 0-weight;", 0);
        dueChild("child 7;", 0);
        dueChild("child left>0;", 1);
        dueChild("child 5/(left-2);", 2);
        // With an ERROR it is as 0: -1, ERROR, -2 and 1, ERROR, 0.
        dueChild("child 0-weight+0/(left-2);", 1);
        dueChild("child 1-left/4+0/(left-2);", 0);
        dueChild("child 1/0;", 0);
        TinTower x = Check.of("thing a 0 0 1 1 1;child weight;");
        x.take(0);
        Check.due("child() of nothing", x.child(), -1);
        TinTower y = Check.of("thing a 0 0 1 1 1;thing b 2 0 1 1 3;");
        y.take(0);
        Check.due("child() without a child", y.child(), 1);
    }

    private static void spree() {
        TinTower x = Check.of(THREE + "thing d 5 0 1 1 3;thing e 7 0 1 1 2;child weight;");
        Check.due("spree(-1)", x.spree(-1), -1);
        Check.due("spree(10)", x.spree(10), -1);
        Check.due("spree(0)", x.spree(0), 0);
        Check.due("count(5)", x.count(5), 0);
        Check.due("spree(1)", x.spree(1), 1);
        Check.due("there()", x.there(), 24);
        Check.due("spree(9)", x.spree(9), 2);
        Check.due("there()", x.there(), 0);
        Check.due("spree(9) of nothing", x.spree(9), 0);
        Check.due("count(5)", x.count(5), 2);
        Check.due("undo()", x.undo(), 1);
        Check.due("there() behind undo", x.there(), 24);
        Check.due("undo()", x.undo(), 0);
        Check.due("there() behind undo", x.there(), 31);
        Check.due("spree(2)", x.spree(2), 2);
        Check.due("there() behind two", x.there(), 16);
        Check.due("undo() of a whole spree", x.undo(), 0);
        Check.due("there() behind undo", x.there(), 31);
    }

    /** What the child likes is worked out anew for each one it takes. */
    private static void spreeTakesAnew() {
        TinTower x = Check.of(THREE + "thing d 5 0 1 1 6;child load;");
        Check.due("child()", x.child(), 0);
        TinTower y = Check.of("thing a 0 0 2 1 4;thing b 0 1 2 1 3;thing c 5 0 1 1 5;thing d 9 0 1 1 1;child 100*(above=0)+weight;");
        Check.due("child()", y.child(), 2);
        Check.due("spree(1)", y.spree(1), 1);
        Check.due("child()", y.child(), 1);
        Check.due("spree(1)", y.spree(1), 1);
        Check.due("child()", y.child(), 0);
        Check.due("spree(9)", y.spree(9), 2);
    }

    private static void take() {
        TinTower x = Check.of(THREE + "thing d 5 0 1 1 3;");
        Check.due("take(4)", x.take(4), -1);
        Check.due("take(-1)", x.take(-1), -1);
        Check.due("count(5)", x.count(5), 0);
        Check.due("take(2)", x.take(2), 11);
        Check.due("take(2) again", x.take(2), -1);
        Check.due("take(0): what is on it falls", x.take(0), 8);
        Check.due("take(1), fallen", x.take(1), -1);
        Check.due("count(5)", x.count(5), 2);
        Check.due("take(3)", x.take(3), 0);
        TinTower hung = Check.of("thing a 0 0 1 1 1;thing b 0 5 1 1 1;thing c 3 0 1 1 1;");
        Check.due("what hung already falls", hung.take(2), 1);
    }

    private static void pull() {
        TinTower x = Check.of(THREE + "thing d 5 0 1 1 3;");
        Check.due("pull(4)", x.pull(4), -1);
        Check.due("pull(-1)", x.pull(-1), -1);
        Check.due("count(5)", x.count(5), 0);
        Check.due("pull(0)", x.pull(0), 14);
        Check.due("look(1, 1)", x.look(1, 1), 0);
        Check.due("look(2, 1)", x.look(2, 1), 2);
        Check.due("above(1)", x.above(1), 4);
        Check.due("count(6)", x.count(6), 3);
        Check.due("pull(0), gone", x.pull(0), -1);
        Check.due("pull(1)", x.pull(1), 12);
        Check.due("look(2, 1)", x.look(2, 1), 0);
        Check.due("undo()", x.undo(), 1);
        Check.due("look(2, 1) behind undo", x.look(2, 1), 2);
        Check.due("undo()", x.undo(), 0);
        Check.due("look(1, 1) behind undo", x.look(1, 1), 3);
        Check.due("look(2, 1) behind undo", x.look(2, 1), 5);
        TinTower y = Check.of("shelf 4;thing a 2 0 5 2 9 heart 0;thing b 5 2 2 1 1;thing c 3 2 2 1 1;");
        Check.due("pull(0): one is lost", y.pull(0), 4);
        Check.due("edge(2, -1, 1)", y.edge(2, -1, 1), 8);
    }

    private static void move() {
        TinTower x = Check.of("shelf 40;thing a 0 0 4 2 1;thing b 6 0 4 2 1;thing c 6 2 2 1 1;thing d 30 0 2 1 1;");
        Check.due("move(0, 0)", x.move(0, 0), -1);
        Check.due("move(0, -1)", x.move(0, -1), -1);
        Check.due("move(0, 3)", x.move(0, 3), -1);
        Check.due("move(0, 9)", x.move(0, 9), -1);
        Check.due("move(0, 10)", x.move(0, 10), -1);
        Check.due("move(0, 12)", x.move(0, 12), -1);
        Check.due("move(3, 10)", x.move(3, 10), -1);
        Check.due("move(3, -10)", x.move(3, -10), -1);
        Check.due("move(4, 1)", x.move(4, 1), -1);
        Check.due("move(-1, 1)", x.move(-1, 1), -1);
        Check.due("move(0, MIN_VALUE)", x.move(0, Integer.MIN_VALUE), -1);
        Check.due("count(5): nothing happened", x.count(5), 0);
        Check.due("look(0, 0)", x.look(0, 0), 0);
        Check.due("move(0, 2)", x.move(0, 2), 15);
        Check.due("look(0, 0)", x.look(0, 0), 2);
        Check.due("look(0, 8)", x.look(0, 8), 8);
        Check.due("move(3, 9)", x.move(3, 9), 15);
        Check.due("look(3, 0)", x.look(3, 0), 39);
        Check.due("move(3, 1)", x.move(3, 1), -1);
        Check.due("move(3, -9)", x.move(3, -9), 15);
        Check.due("move(2, 1)", x.move(2, 1), 15);
        Check.due("edge(2, 1, 0)", x.edge(2, 1, 0), 14);
        Check.due("count(5)", x.count(5), 4);
    }

    private static void moveFalls() {
        TinTower x = Check.of(THREE + "thing d 5 0 1 1 3;");
        Check.due("move(1, 2): it hangs, what is on it falls", x.move(1, 2), 9);
        Check.due("look(1, 9)", x.look(1, 9), 0);
        Check.due("look(2, 0): nothing else moves", x.look(2, 0), 0);
        Check.due("move(1, 1), gone", x.move(1, 1), -1);
        Check.due("move(3, -5): it is taken up", x.move(3, -5), -1);
        Check.due("take(0)", x.take(0), 8);
        Check.due("move(3, -5): it is free", x.move(3, -5), 8);
        TinTower y = Check.of(THREE);
        Check.due("move(0, 1): its heart bears all above yet", y.move(0, 1), 7);
        Check.due("move(0, 1): what is above hangs", y.move(0, 1), 1);
    }

    private static void undo() {
        TinTower x = Check.of(THREE);
        Check.due("undo() of nothing", x.undo(), -1);
        x.take(2);
        x.move(1, 1);
        x.pull(0);
        Check.due("count(5)", x.count(5), 3);
        Check.due("undo()", x.undo(), 2);
        Check.due("there()", x.there(), 3);
        Check.due("look(1, 1)", x.look(1, 1), 3);
        Check.due("undo()", x.undo(), 1);
        Check.due("look(1, 0)", x.look(1, 0), 0);
        Check.due("undo()", x.undo(), 0);
        Check.due("there()", x.there(), 7);
        Check.due("undo()", x.undo(), -1);
        Check.due("there()", x.there(), 7);
        Check.due("edges are as they were", x.edge(1, 0, 1), 4);
    }

    private static void undoWhatChanged() {
        TinTower x = Check.of(THREE);
        x.take(9);
        x.pull(-1);
        x.move(0, 0);
        x.spree(0);
        x.spree(-1);
        x.keep();
        x.pulled(0);
        x.hangs(0);
        Check.due("nothing changed", x.undo(), -1);
        x.take(0);
        Check.due("all has gone", x.there(), 0);
        Check.due("spree(3) of nothing", x.spree(3), 0);
        Check.due("one can be undone", x.undo(), 0);
    }

    private static void undoThirty() {
        TinTower x = Check.of("shelf 40;thing a 0 0 1 1 1;");
        for (int i = 1; i <= 33; i++) {
            Check.due("move " + i, x.move(0, 1), 1);
            Check.due("count(5) behind " + i, x.count(5), Math.min(i, 30));
        }
        for (int i = 29; i >= 0; i--) {
            Check.due("undo()", x.undo(), i);
            Check.due("look(0, 0)", x.look(0, 0), i + 3);
        }
        Check.due("undo() of nothing", x.undo(), -1);
        Check.due("look(0, 0)", x.look(0, 0), 3);
    }

    private static void images() {
        TinTower x = Check.of(THREE);
        Check.due("back() without an image", x.back(), -1);
        x.move(2, 1);
        Check.due("keep()", x.keep(), 7);
        Check.due("count(5): keep changes nothing", x.count(5), 1);
        x.pull(0);
        x.take(1);
        Check.due("there()", x.there(), 0);
        Check.due("back()", x.back(), 7);
        Check.due("look(2, 0)", x.look(2, 0), 1);
        Check.due("look(1, 1)", x.look(1, 1), 3);
        Check.due("edge(2, 1, 0)", x.edge(2, 1, 0), 2);
        Check.due("undo()", x.undo(), -1);
        x.take(2);
        Check.due("undo()", x.undo(), 0);
        x.take(2);
        Check.due("keep() in place of one ahead", x.keep(), 3);
        x.take(1);
        Check.due("back()", x.back(), 3);
        Check.due("back() again", x.back(), 3);
        x.spree(9);
        Check.due("keep() of nothing", x.keep(), 0);
        x.undo();
        Check.due("back() to nothing", x.back(), 0);
    }

    private static void count() {
        TinTower x = Check.of("shelf 13;" + THREE + "thing d 5 0 1 1 3;child 1+weight;");
        int[] due = {4, 13, 3, 4, 10, 0, 6};
        for (int what = 0; what < due.length; what++) {
            Check.due("count(" + what + ")", x.count(what), due[what]);
        }
        x.take(2);
        x.take(0);
        int[] then = {4, 13, 3, 1, 3, 2, 1};
        for (int what = 0; what < then.length; what++) {
            Check.due("count(" + what + ") then", x.count(what), then[what]);
        }
        x.take(3);
        Check.due("count(6) of nothing", x.count(6), 0);
        Check.due("count(4) of nothing", x.count(4), 0);
        Check.due("count(7)", x.count(7), -1);
        Check.due("count(-1)", x.count(-1), -1);
        Check.due("count(MIN_VALUE)", x.count(Integer.MIN_VALUE), -1);
    }
}
