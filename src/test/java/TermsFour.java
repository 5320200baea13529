/** Terms 4: the child and what it takes, what can be undone, images, which answer goes first. */
final class TermsFour {
    private static final String THREE = "thing a 0 0 2 3 4;thing b 0 3 2 2 2;thing c 0 5 2 1 1;";
    private static final String APART = "thing a 0 0 1 1 2;thing b 2 0 1 1 3;thing c 4 0 1 1 1;";
    private static final long ERROR = Long.MIN_VALUE;

    private TermsFour() {
    }

    static void run() {
        child();
        names();
        above();
        load();
        comparisons();
        values();
        errors();
        changes();
        undone();
        images();
        noneFirst();
        boundsFirst();
    }

    private static void says(String words) {
        Doc.says("4", words);
    }

    private static void child(String text, int due) {
        Check.due(text + " child()", Check.of(text).child(), due);
    }

    private static void value(String e, long due) {
        Check.due("wish(0) by " + e, Check.of("thing a 3 0 4 2 7 rough 6;child " + e + ";").wish(0), due);
    }

    private static void child() {
        says("The CHILD takes the THING there with the greatest E (with an ERROR or without child: 0), of several the first;");
        child(APART + "child weight;", 1);
        child(APART + "child 9-weight;", 2);
        child(APART + "child left;", 2);
        child(APART + "child 0-weight;", 2);
        child(APART + "child 0-left-weight;", 0);
        child(APART + "child 0-1;", 0);
        child(APART + "child left>0;", 1);
        child(APART, 0);
        // Errors for one of them: it is as 0, more than what is below, less than what is above.
        child(APART + "child 0-weight+0/(left-2);", 1);
        child(APART + "child 1+0/left;", 1);
        child(APART + "child 0-1+0/left;", 0);
        child(APART + "child 0/left;", 0);
        child(APART + "child left-2+0/(left-4);", 1);
        child(APART + "child left-3+0/(left-4);", 2);
        child(APART + "child 1/0;", 0);
        TinTower x = Check.of(APART + "child weight;");
        x.take(1);
        Check.due("of those there", x.child(), 0);
        x.take(0);
        Check.due("of those there", x.child(), 2);
        TinTower y = Check.of(APART);
        y.take(0);
        Check.due("without a child of those there", y.child(), 1);
        says("then WHAT FALLS.");
        TinTower z = Check.of(THREE + "child weight;");
        Check.due("it takes a", z.spree(1), 1);
        Check.due("and all has fallen", z.there(), 0);
        TinTower w = Check.of(THREE + "child 0-weight;");
        Check.due("it takes c", w.spree(1), 1);
        Check.due("and nothing has fallen", w.there(), 3);
    }

    private static void names() {
        says("NAMES: weight, wide, high, left (LEFT), foot,");
        String text = "thing p 1 0 9 2 5;thing a 3 2 4 3 7 rough 6;child ";
        String[] names = {"weight", "wide", "high", "left", "foot", "rough"};
        int[] first = {5, 9, 2, 1, 0, 5};
        int[] second = {7, 4, 3, 3, 2, 6};
        for (int i = 0; i < names.length; i++) {
            TinTower x = Check.of(text + names[i] + ";");
            Check.due(names[i] + " of p", x.wish(0), first[i]);
            Check.due(names[i] + " of a", x.wish(1), second[i]);
        }
        TinTower y = Check.of(text + "100*left+foot;");
        y.move(1, 2);
        Check.due("moved", y.wish(1), 502);
        y.pull(0);
        Check.due("pulled out", y.wish(1), 500);
        says("rough.");
        TinTower z = Check.of("thing a 3 0 4 2 7 rough 0 doubt 5;thing b 9 0 1 1 1 rough 10;thing c 0 0 1 1 1;child rough;");
        Check.due("rough 0", z.wish(0), 0);
        Check.due("rough 10", z.wish(1), 10);
        Check.due("rough, not told", z.wish(2), 5);
    }

    private static void above() {
        says("above: how many stand on it,");
        TinTower x = Check.of("thing a 3 0 6 1 1;thing b 3 1 2 1 1;thing c 6 1 2 1 1;thing d 6 2 1 1 1;thing e 9 1 2 1 1;child above;");
        int[] due = {2, 0, 1, 0, 0};
        for (int t = 0; t < due.length; t++) {
            Check.due("above of " + t, x.wish(t), due[t]);
        }
        x.take(1);
        Check.due("with one of them taken", x.wish(0), 1);
        TinTower y = Check.of("thing b 3 1 2 1 1;thing a 3 0 6 1 1;child above;");
        Check.due("the first one stands on it", y.wish(1), 1);
    }

    private static void load() {
        says("load: its LOAD by 27720, cut,");
        TinTower x = Check.of("thing p 0 0 1 1 1;thing q 4 0 1 1 1;thing b 0 1 5 1 1 heart 6;child load;");
        // Between 2 and 8 at 6: two thirds and a third go on.
        Check.due("one and a third", x.wish(0), 1);
        Check.due("one and two thirds", x.wish(1), 1);
        Check.due("one", x.wish(2), 1);
        Check.due("whole ones", Check.of("thing a 0 0 9 1 99;thing b 0 1 9 1 99;child load;").wish(0), 198);
        // What tips pushes nothing.
        TinTower y = Check.of("thing a 0 0 2 1 1;thing b 0 1 9 1 9;child load;");
        Check.due("load of a", y.wish(0), 1);
        Check.due("load of b", y.wish(1), 9);
        // It is what is borne now, whatever was asked of another set ahead.
        TinTower z = Check.of("thing a 0 0 2 1 1;thing b 0 1 2 1 5;thing c 4 0 1 1 3;child load;");
        z.stands(1, 0, 0);
        Check.due("the child takes a", z.child(), 0);
        z.stands(2, 2, 0);
        z.take(1);
        Check.due("then it takes c", z.child(), 2);
        Check.due("load of a", z.wish(0), 1);
        TinTower w = Check.of("thing a 0 0 2 1 1;thing b 0 1 2 1 5;thing c 4 0 1 1 5;child load;");
        w.stands(7, 1, 0);
        Check.due("child() behind stands() with one held", w.child(), 0);
        w.stands(7, 2, 0);
        Check.due("child() behind stands() with b held", w.child(), 0);
        w.most(2);
        Check.due("child() behind most()", w.child(), 0);
        w.stands(7, 2, 0);
        Check.due("wish() behind stands() with b held", w.wish(0), 6);
        // Thing 0 tips over thing 1 and pushes nothing.
        TinTower u = Check.of("thing b 0 1 9 1 9;thing a 0 0 2 1 1;thing c 12 0 2 1 5;child load*(above=0);");
        Check.due("load of a", Check.of("thing b 0 1 9 1 9;thing a 0 0 2 1 1;child load;").wish(1), 1);
        u.take(0);
        Check.due("child()", u.child(), 2);
        TinTower s = Check.of("thing b 0 1 9 1 3;thing a 0 0 2 1 1;thing c 12 0 2 1 2;child load*(foot=0);");
        Check.due("child(): a bears 1", s.child(), 2);
        TinTower v = Check.of("thing b 0 1 2 1 5;thing a 0 0 2 1 1;child load;");
        Check.due("wish() of the lower one, told second", v.wish(1), 6);
        Check.due("child(): the lower one, told second", v.child(), 1);
    }

    private static void comparisons() {
        says("VALUES are longs; comparisons, and, or, not are 1 or 0 (what isn't 0 is as 1, both sides are worked out),");
        value("(2 < 3) + (2 <= 2) + (3 = 3) + (2 <> 3) + (3 >= 3) + (3 > 2)", 6);
        value("(3 < 3) + (3 <= 2) + (3 = 2) + (3 <> 3) + (2 >= 3) + (3 > 3)", 0);
        value("5 and 7", 1);
        value("5 and 0", 0);
        value("0 and 5", 0);
        value("0 and 0", 0);
        value("5 or 0", 1);
        value("0 or 5", 1);
        value("5 or 7", 1);
        value("0 or 0", 0);
        value("not 5", 0);
        value("not 0", 1);
        value("not (0-5)", 0);
        value("(0-5) and 7", 1);
        value("(0-5) or 0", 1);
        value("(0-5) < (0-4)", 1);
        value("0 and 1/0", ERROR);
        value("1/0 and 0", ERROR);
        value("1 or 1/0", ERROR);
        value("1/0 or 1", ERROR);
        value("0*(1/0)", ERROR);
        value("9999*9999*9999", 999700029999L);
        value("0-9999*9999*9999", -999700029999L);
        value("5000*1000*1000=5000*1000*1000", 1);
        value("0*7", 0);
        value("7*0", 0);
        value("1*7", 7);
        value("(0-1)*7", -7);
        value("(0-5)*(0-3)", 15);
        value("4295*1000*1000*1000-4294*1000*1000*1000=1000*1000*1000", ERROR);
        value("429*1000*1000*1000/(1000*1000*1000)", 429);
    }

    private static void values() {
        says("/ is cut towards 0;");
        value("7/2", 3);
        value("(0-7)/2", -3);
        value("7/(0-2)", -3);
        value("(0-7)/(0-2)", 3);
        value("1/2", 0);
        value("(0-1)/2", 0);
        value("0/5", 0);
        value("6/2", 3);
    }

    private static void errors() {
        says("ERROR: / by 0,");
        value("1/0", ERROR);
        value("0/0", ERROR);
        value("1/(3-left)", ERROR);
        value("1/foot", ERROR);
        value("not (1/0)", ERROR);
        says("a value above 10 to the 12");
        String much = "1000*1000*1000*1000";
        value(much, 1000000000000L);
        value(much + "+1", ERROR);
        value("1+" + much, ERROR);
        value(much + "-(0-1)", ERROR);
        value("(" + much + "+1)-1", ERROR);
        value("2*(500*1000*1000*1000)", 1000000000000L);
        value("2*(500*1000*1000*1000+1)", ERROR);
        value("9999*9999*9999*9999", ERROR);
        // As a long alone 4096 times 4096 times 256 squared would be 0.
        value("4096*4096*256", 4294967296L);
        value("4096*4096*256*(4096*4096*256)", ERROR);
        value("(0-4096*4096*256)*(4096*4096*256)", ERROR);
        value(much + "*(" + much + ")", ERROR);
        value("(" + much + "+1)>0", ERROR);
        value("0*(" + much + "+1)", ERROR);
        says("or below 0 by more than that.");
        value("0-" + much, -1000000000000L);
        value("0-" + much + "-1", ERROR);
        value("(0-1)*(" + much + ")", -1000000000000L);
        value("(0-2)*(500*1000*1000*1000)", -1000000000000L);
        value("(0-2)*(500*1000*1000*1000+1)", ERROR);
        value("(0-" + much + ")*(" + much + ")", ERROR);
        value("(0-" + much + "-1)+1", ERROR);
        value("(0-" + much + ")/(0-1)", 1000000000000L);
    }

    private static void changes() {
        says("take(), pull(), move(), spree() change what is there;");
        TinTower x = Check.of(APART);
        x.take(0);
        Check.due("take", x.there(), 6);
        x.pull(1);
        Check.due("pull", x.there(), 4);
        x.move(2, 1);
        Check.due("move", x.look(2, 0), 5);
        x.spree(1);
        Check.due("spree", x.there(), 0);
        says("each that changed something can be undone, the latest first");
        int[] there = {4, 4, 6, 7};
        int[] left = {5, 4, 4, 4};
        for (int i = 0; i < 4; i++) {
            Check.due("undo " + i, x.undo(), 3 - i);
            Check.due("there() behind undo " + i, x.there(), there[i]);
            Check.due("look(2, 0) behind undo " + i, x.look(2, 0), left[i]);
        }
        Check.due("no more", x.undo(), -1);
        TinTower y = Check.of(APART);
        y.take(3);
        y.take(-1);
        y.pull(9);
        y.move(0, 0);
        y.move(0, -1);
        y.move(0, 2);
        y.spree(0);
        y.spree(-1);
        y.spree(10);
        y.keep();
        Check.due("nothing was changed", y.count(5), 0);
        Check.due("nothing was changed", y.undo(), -1);
        y.spree(9);
        y.spree(9);
        Check.due("nothing was there the second time", y.count(5), 1);
        Check.due("all of a spree is undone", y.undo(), 0);
        Check.due("all of a spree is undone", y.there(), 7);
    }

    private static void undone() {
        says("(30 at most).");
        TinTower x = Check.of("thing a 0 0 1 1 1;");
        for (int i = 1; i <= 30; i++) {
            x.move(0, i % 2 == 1 ? 9 : -9);
        }
        Check.due("30 of 30", x.count(5), 30);
        x.move(0, 1);
        Check.due("30 of 31", x.count(5), 30);
        x.move(0, 1);
        Check.due("30 of 32", x.count(5), 30);
        for (int i = 29; i >= 0; i--) {
            Check.due("undo", x.undo(), i);
        }
        Check.due("the first two can't be undone", x.undo(), -1);
        Check.due("they stay", x.look(0, 0), 0);
        Check.due("and can be followed by another", x.move(0, 5), 1);
        Check.due("that can be", x.undo(), 0);
        Check.due("the place", x.look(0, 0), 0);
    }

    private static void images() {
        says("An IMAGE keeps which are there, and where.");
        TinTower x = Check.of(THREE);
        x.move(2, 1);
        x.keep();
        x.pull(0);
        x.move(1, 3);
        Check.due("c lies on nothing", x.there(), 2);
        Check.due("back()", x.back(), 7);
        int[] left = {0, 0, 1};
        int[] foot = {0, 3, 5};
        for (int t = 0; t < 3; t++) {
            Check.due("LEFT of " + t, x.look(t, 0), left[t]);
            Check.due("FOOT of " + t, x.look(t, 1), foot[t]);
            Check.due(t + " is there", x.look(t, 9), 1);
        }
        Check.due("the edges, too", x.edge(2, 1, 0), 2);
        Check.due("what each bears, too", x.bears(0, 0), 7 * 27720);
    }

    private static void noneFirst() {
        says("Of several answers that hold NONE goes first.");
        TinTower x = Check.of(THREE);
        Check.due("bears(3, 3)", x.bears(3, 3), -1);
        Check.due("bears(-1, -1)", x.bears(-1, -1), -1);
        Check.due("edge(0, 2, 2)", x.edge(0, 2, 2), -1);
        Check.due("edge(0, 1, -1)", x.edge(0, 1, -1), -1);
        Check.due("hands(0, true, 2): none do, no such what", x.hands(0, true, 2), -1);
        Check.due("hands(0, true, -1)", x.hands(0, true, -1), -1);
        Check.due("falls(8, -1)", x.falls(8, -1), -1);
        Check.due("down(3, 0)", x.down(3, 0), -1);
        TinTower hung = Check.of("thing a 3 1 1 1 1;thing r 5 0 2 2 1 round;");
        Check.due("push() of a round one, but one hangs", hung.push(1, 0, 0), -1);
        Check.due("push() of a round one, no such kind", hung.push(1, 0, 3), -1);
    }

    private static void boundsFirst() {
        says("IndexOutOfBoundsException goes ahead of NoSuchElementException.");
        TinTower x = Check.of(THREE);
        Check.due("look(3, 10)", Promises.thrown(x, 3, 10), 1);
        Check.due("look(-1, -1)", Promises.thrown(x, -1, -1), 1);
        Check.due("look(2, 10)", Promises.thrown(x, 2, 10), 2);
        Check.due("look(3, 0)", Promises.thrown(x, 3, 0), 1);
        Check.due("look(2, 9)", Promises.thrown(x, 2, 9), 0);
    }
}
