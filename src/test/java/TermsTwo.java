/** Terms 2: edges, bearing, what stands and what falls. */
final class TermsTwo {
    private static final long UNIT = 27720;

    private TermsTwo() {
    }

    static void run() {
        halves();
        standsOnAnother();
        standsOnTheShelf();
        edgeOfRounds();
        edgesOfTwoRounds();
        fromTheHighest();
        bears();
        leftToRight();
        firstOfSeveral();
        onOne();
        betweenTwo();
        betweenTwoOfSeveral();
        tips();
        hangs();
        wedged();
        wedgedFirst();
        wedgedOfSeveral();
        held();
        stands();
        falls();
    }

    private static void says(String words) {
        Doc.says("2", words);
    }

    /** The edge of thing 1 on thing 0 is from a to b; -2 for both, if there is none. */
    private static void edge(String text, int a, int b) {
        TinTower x = Check.of(text);
        Check.due(text + " edge(1, 0, 0)", x.edge(1, 0, 0), a);
        Check.due(text + " edge(1, 0, 1)", x.edge(1, 0, 1), b);
    }

    private static void shelfEdge(String text, int a, int b) {
        TinTower x = Check.of(text);
        Check.due(text + " edge(0, -1, 0)", x.edge(0, -1, 0), a);
        Check.due(text + " edge(0, -1, 1)", x.edge(0, -1, 1), b);
    }

    private static void load(TinTower x, int thing, long load, long place) {
        Check.due("bears(" + thing + ", 0)", x.bears(thing, 0), load);
        Check.due("bears(" + thing + ", 1)", x.bears(thing, 1), load * place);
    }

    private static void halves() {
        says("PLACES along are told in HALVES: a LEFT of x is 2 x.");
        shelfEdge("thing a 3 0 4 1 1;", 6, 14);
        shelfEdge("thing a 0 0 1 1 1 round;", 1, 1);
        Check.due("the heart's place", Check.of("thing a 3 0 1 1 1;").look(0, 8), 7);
        shelfEdge("shelf 40;thing a 39 0 1 1 1;", 78, 80);
    }

    private static void standsOnAnother() {
        says("A THING STANDS ON another one, if its FOOT is the other's FOOT and HIGH,");
        edge("thing a 3 0 2 2 1;thing b 3 2 2 1 1;", 6, 10);
        edge("thing a 3 4 2 2 1;thing b 3 6 2 1 1;", 6, 10);
        edge("thing a 3 0 2 2 1;thing b 3 3 2 1 1;", -2, -2);
        edge("thing a 3 1 2 2 1;thing b 3 0 2 1 1;", -2, -2);
        edge("thing a 3 0 2 2 1;thing b 5 0 2 2 1;", -2, -2);
        says("and they have more than an end in common along;");
        edge("thing a 3 0 2 1 1;thing b 5 1 2 1 1;", -2, -2);
        edge("thing a 3 0 2 1 1;thing b 1 1 2 1 1;", -2, -2);
        edge("thing a 3 0 2 1 1;thing b 4 1 2 1 1;", 8, 10);
        edge("thing a 3 0 2 1 1;thing b 2 1 2 1 1;", 6, 8);
        edge("thing a 3 0 2 1 1;thing b 0 1 9 1 1;", 6, 10);
        edge("thing a 0 0 9 1 1;thing b 3 1 2 1 1;", 6, 10);
        edge("thing a 3 0 2 1 1;thing b 9 1 2 1 1;", -2, -2);
    }

    private static void standsOnTheShelf() {
        says("on the SHELF, if its FOOT is 0 and it has some of the shelf:");
        shelfEdge("shelf 9;thing a 0 1 2 1 1;", -2, -2);
        shelfEdge("shelf 9;thing a 9 0 2 1 1;", -2, -2);
        shelfEdge("shelf 9;thing a 10 0 2 1 1;", -2, -2);
        says("the EDGE between is what they have in common (from a to b).");
        shelfEdge("shelf 9;thing a 7 0 2 1 1;", 14, 18);
        shelfEdge("shelf 9;thing a 8 0 2 1 1;", 16, 18);
        shelfEdge("shelf 9;thing a 0 0 12 1 1;", 0, 18);
        edge("thing a 3 0 5 1 1;thing b 2 1 4 1 1;", 6, 12);
    }

    private static void edgeOfRounds() {
        says("A round one has its middle alone (on the SHELF, on another: if the other has that, ends too;");
        shelfEdge("shelf 9;thing a 3 0 3 1 1 round;", 9, 9);
        shelfEdge("shelf 9;thing a 8 0 2 1 1 round;", 18, 18);
        shelfEdge("shelf 9;thing a 8 0 3 1 1 round;", -2, -2);
        shelfEdge("shelf 9;thing a 7 0 3 1 1 round;", 17, 17);
        edge("thing a 2 0 2 1 1;thing r 2 1 2 1 1 round;", 6, 6);
        edge("thing a 2 0 2 1 1;thing r 1 1 2 1 1 round;", 4, 4);
        edge("thing a 2 0 2 1 1;thing r 3 1 2 1 1 round;", 8, 8);
        edge("thing a 2 0 2 1 1;thing r 0 1 3 1 1 round;", -2, -2);
        edge("thing a 2 0 2 1 1;thing r 3 1 3 1 1 round;", -2, -2);
        says("another on it: if that has it, ends too;");
        edge("thing r 2 0 2 1 1 round;thing b 2 1 2 1 1;", 6, 6);
        edge("thing r 2 0 2 1 1 round;thing b 3 1 2 1 1;", 6, 6);
        edge("thing r 2 0 2 1 1 round;thing b 1 1 2 1 1;", 6, 6);
        edge("thing r 2 0 3 1 1 round;thing b 4 1 2 1 1;", -2, -2);
        edge("thing r 2 0 3 1 1 round;thing b 1 1 2 1 1;", -2, -2);
    }

    private static void edgesOfTwoRounds() {
        says("both round: if both are alike): an EDGE from that to that.");
        edge("thing r 2 0 4 2 1 round;thing s 3 2 2 1 1 round;", 8, 8);
        edge("thing r 2 0 2 2 1 round;thing s 1 2 4 1 1 round;", 6, 6);
        edge("thing r 2 0 4 2 1 round;thing s 2 2 2 1 1 round;", -2, -2);
        edge("thing r 2 0 4 2 1 round;thing s 4 2 2 1 1 round;", -2, -2);
        edge("thing r 2 0 3 2 1 round;thing s 2 2 2 1 1 round;", -2, -2);
        edge("thing r 2 0 3 2 1 round;thing s 3 2 1 1 1 round;", 7, 7);
    }

    /** A stack of four, told in each of the 24 orders: whatever their numbers, what is above is borne first. */
    private static void fromTheHighest() {
        says("BEARING: of the THINGS there, from the highest FOOT down (of several by numbers):");
        int[] loads = {10, 9, 7, 4};
        for (int order = 0; order < 256; order++) {
            StringBuilder text = new StringBuilder();
            int seen = 0;
            for (int i = 0; i < 8; i += 2) {
                int storey = order >> i & 3;
                seen |= 1 << storey;
                text.append("thing ").append("abcd".charAt(storey)).append(" 3 ").append(2 * storey).append(" 2 2 ")
                        .append(storey + 1).append(';');
            }
            if (seen == 15) {
                TinTower x = Check.of(text.toString());
                for (int storey = 0; storey < 4; storey++) {
                    load(x, x.named(storey + 1 << 25), loads[storey] * UNIT, 8);
                }
            }
        }
        TinTower y = Check.of("thing a 0 0 9 1 1;thing b 0 1 2 1 2;thing c 5 1 2 1 4;");
        Check.due("of what is there alone", y.bears(0, 0), 7 * UNIT);
        y.take(1);
        Check.due("of what is there alone, then", y.bears(0, 0), 5 * UNIT);
    }

    private static void bears() {
        says("what a THING bears is its WEIGHT times 27720 at its heart (LOAD),");
        load(Check.of("thing a 3 0 4 1 7;"), 0, 7 * UNIT, 10);
        load(Check.of("thing a 3 0 4 1 99 heart 8;"), 0, 99 * UNIT, 14);
        load(Check.of("thing a 3 0 4 1 1 heart 0;"), 0, UNIT, 6);
        says("and what those that stand on it push (LOADS and MOMENTS are added; MOMENT: LOAD times place).");
        TinTower x = Check.of("thing a 3 0 4 1 7;thing b 3 1 1 1 2;thing c 6 1 1 1 3;thing d 3 2 1 1 5;");
        Check.due("bears(0, 0)", x.bears(0, 0), 17 * UNIT);
        Check.due("bears(0, 1)", x.bears(0, 1), (7 * 10 + 7 * 7 + 3 * 13) * UNIT);
        load(x, 1, 7 * UNIT, 7);
        load(x, 2, 3 * UNIT, 13);
    }

    private static void leftToRight() {
        says("By its EDGES, from left to right (by a; of several by numbers):");
        // Three posts and a board on them, the posts told in each of the six orders: the middle one and the right one bear it.
        int[][] orders = {{0, 1, 2}, {0, 2, 1}, {1, 0, 2}, {1, 2, 0}, {2, 0, 1}, {2, 1, 0}};
        String[] posts = {"thing a 0 0 1 1 1;", "thing b 3 0 1 1 1;", "thing c 8 0 1 1 1;"};
        for (int[] order : orders) {
            for (int board = 0; board < 2; board++) {
                String told = posts[order[0]] + posts[order[1]] + posts[order[2]];
                String text = board == 0 ? "thing d 0 1 9 1 1 heart 12;" + told : told + "thing d 0 1 9 1 1 heart 12;";
                TinTower x = Check.of(text);
                Check.due(text + " a bears", x.bears(x.named(1 << 25), 0), UNIT);
                Check.due(text + " b bears", x.bears(x.named(2 << 25), 0), UNIT + UNIT / 2);
                Check.due(text + " b's moment", x.bears(x.named(2 << 25), 1), UNIT * 7 + UNIT / 2 * 8);
                Check.due(text + " c bears", x.bears(x.named(3 << 25), 0), UNIT + UNIT / 2);
                Check.due(text + " c's moment", x.bears(x.named(3 << 25), 1), UNIT * 17 + UNIT / 2 * 16);
            }
        }
        // Of two edges of a round one that begin alike the one with the least number is ahead.
        TinTower y = Check.of("thing p 2 0 2 1 1;thing q 0 0 2 1 1;thing r 1 1 2 1 1 round;");
        Check.due("the first by numbers", y.bears(0, 0), 2 * UNIT);
        Check.due("the other", y.bears(1, 0), UNIT);
        TinTower z = Check.of("thing r 1 1 2 1 1 round;thing q 0 0 2 1 1;thing p 2 0 2 1 1;");
        Check.due("the first by numbers", z.bears(1, 0), 2 * UNIT);
        Check.due("the other", z.bears(2, 0), UNIT);
    }

    private static void firstOfSeveral() {
        says("of one (the first of several), all goes on there as it is;");
        // Its heart is where one post ends and the next begins.
        TinTower x = Check.of("thing p 2 0 2 1 1;thing q 0 0 2 1 1;thing b 0 1 4 1 1;");
        Check.due("the right one", x.bears(0, 0), UNIT);
        load(x, 1, 2 * UNIT, 3);
        TinTower y = Check.of("thing q 0 0 2 1 1;thing p 2 0 2 1 1;thing b 0 1 4 1 1;");
        load(y, 0, 2 * UNIT, 3);
        Check.due("the right one", y.bears(1, 0), UNIT);
        // What goes on as it is has the place where it was: 3 at 2 and 1 at 6 are 4 at 3.
        TinTower z = Check.of("thing a 0 0 4 1 1;thing b 0 1 4 1 3 heart 2;thing c 2 2 2 1 1;");
        Check.due("bears(0, 0)", z.bears(0, 0), 5 * UNIT);
        Check.due("bears(0, 1)", z.bears(0, 1), (4 + 6 + 6) * UNIT);
    }

    private static void onOne() {
        says("if MOMENT is LOAD times a at least and LOAD times b at most");
        int[] fates = {1, 0, 0, 0, 0, 0, 1};
        for (int i = 0; i < fates.length; i++) {
            // The post goes from 6 to 10, the heart is at 5 .. 11.
            TinTower x = Check.of("thing p 3 0 2 1 1;thing b 2 1 4 1 1 heart " + (i + 1) + ";");
            Check.due("heart at " + (i + 5), x.bears(1, 2), fates[i]);
            Check.due("the post with a heart at " + (i + 5), x.bears(0, 0), fates[i] == 0 ? 2 * UNIT : UNIT);
            // The same the other way round: the board is told first.
            TinTower y = Check.of("thing b 2 1 4 1 1 heart " + (i + 1) + ";thing p 3 0 2 1 1;");
            Check.due("told first, heart at " + (i + 5), y.bears(0, 2), fates[i]);
            Check.due("the post told behind with a heart at " + (i + 5), y.bears(1, 0), fates[i] == 0 ? 2 * UNIT : UNIT);
        }
        Check.due("at a point", Check.of("thing p 3 0 2 1 1 round;thing b 2 1 4 1 1;").bears(1, 2), 0);
        Check.due("beside a point", Check.of("thing p 3 0 2 1 1 round;thing b 2 1 4 1 1 heart 3;").bears(1, 2), 1);
        Check.due("beside a point, right", Check.of("thing p 3 0 2 1 1 round;thing b 2 1 4 1 1 heart 5;").bears(1, 2), 1);
    }

    private static void betweenTwo() {
        says("else between two (b of one, a of the next): the next has (MOMENT less LOAD times b) by (a less b), cut, at a,");
        // Between 4 and 17 the heart is at 12: 8 of 13 parts, 17058 and some, go on at 17.
        for (int first = 0; first < 2; first++) {
            String board = "thing c 0 1 12 1 1;";
            TinTower x = Check.of((first == 0 ? board : "") + "thing a 0 0 2 1 1;thing r 6 0 5 1 1 round;" + (first == 1 ? board : ""));
            int a = 1 - first;
            Check.due("the next's load", x.bears(a + 1, 0), UNIT + 17058);
            Check.due("the next's moment", x.bears(a + 1, 1), (UNIT + 17058) * 17);
            Check.due("the load of the one ahead", x.bears(a, 0), UNIT + 10662);
            Check.due("the moment of the one ahead", x.bears(a, 1), UNIT * 2 + 10662 * 4);
            Check.due("it stands", x.bears(first == 0 ? 0 : 2, 2), 0);
        }
        says("the one ahead the rest at b.");
        // 7 heavy, between 2 and 16 at 3: 7 times 27720 by 14 at 16, 13 of 14 parts at 2.
        TinTower y = Check.of("thing p 0 0 1 1 1;thing q 8 0 1 1 1;thing b 0 1 9 1 7 heart 3;");
        Check.due("the rest", y.bears(0, 0), UNIT + UNIT * 13 / 2);
        Check.due("the rest's moment", y.bears(0, 1), UNIT + UNIT * 13 / 2 * 2);
        Check.due("the next", y.bears(1, 0), UNIT + UNIT / 2);
        Check.due("the next's moment", y.bears(1, 1), UNIT * 17 + UNIT / 2 * 16);
    }

    /** What two give goes on together. */
    private static void betweenTwoOfSeveral() {
        says("the next has (MOMENT less LOAD times b) by (a less b), cut,");
        TinTower x = Check.of("thing p 0 0 1 1 1;thing q 2 0 2 1 1;thing r 8 0 1 1 1;thing b 0 1 3 1 2 heart 3;"
                + "thing c 3 1 7 1 3 heart 5;");
        // b, 2 at 3: between 2 and 4 a half each. c, 3 at 11: between 8 and 16, 3 of 8 parts at 16.
        Check.due("p", x.bears(0, 0), UNIT * 2);
        Check.due("q", x.bears(1, 0), UNIT * 2 + UNIT * 15 / 8);
        Check.due("q's moment", x.bears(1, 1), UNIT * 6 + UNIT * 4 + UNIT * 15 / 8 * 8);
        Check.due("r", x.bears(2, 0), UNIT + UNIT * 9 / 8);
        Check.due("r's moment", x.bears(2, 1), UNIT * 17 + UNIT * 9 / 8 * 16);
    }

    private static void tips() {
        says("It TIPS, if MOMENT is beyond all EDGES,");
        TinTower x = Check.of("thing p 3 0 1 1 1;thing q 6 0 1 1 1;thing b 0 1 12 1 1 heart 15;");
        Check.due("beyond the right one", x.bears(2, 2), 1);
        Check.due("beyond the left one", Check.of("thing p 3 0 1 1 1;thing q 6 0 1 1 1;thing b 0 1 12 1 1 heart 5;").bears(2, 2), 1);
        Check.due("between", Check.of("thing p 3 0 1 1 1;thing q 6 0 1 1 1;thing b 0 1 12 1 1 heart 10;").bears(2, 2), 0);
        Check.due("at the right end", Check.of("thing p 3 0 1 1 1;thing q 6 0 1 1 1;thing b 0 1 12 1 1 heart 14;").bears(2, 2), 0);
        Check.due("at the left end", Check.of("thing p 3 0 1 1 1;thing q 6 0 1 1 1;thing b 0 1 12 1 1 heart 6;").bears(2, 2), 0);
        Check.due("over the shelf's end", Check.of("shelf 4;thing a 3 0 3 1 1;").bears(0, 2), 1);
        Check.due("at the shelf's end", Check.of("shelf 4;thing a 3 0 2 1 1;").bears(0, 2), 0);
        Check.due("round on the shelf, its heart beside", Check.of("thing a 3 0 2 2 1 round heart 1;").bears(0, 2), 1);
        // By what is on it: 1 at 8 and 1 at 14 are 2 at 11, beyond 10.
        Check.due("by what is on it", Check.of("thing p 3 0 2 1 1;thing b 2 1 6 1 1 heart 4;thing c 7 2 1 1 1 heart 0;").bears(1, 2), 1);
        Check.due("by less on it", Check.of("thing p 3 0 2 1 1;thing b 2 1 6 1 3 heart 4;thing c 7 2 1 1 1 heart 0;").bears(1, 2), 0);
    }

    private static void hangs() {
        says("and HANGS without an EDGE:");
        Check.due("in the air", Check.of("thing a 3 1 2 1 1;").bears(0, 2), 2);
        Check.due("beside another one", Check.of("thing p 0 0 2 1 1;thing b 2 1 2 1 1;").bears(1, 2), 2);
        Check.due("beyond the shelf", Check.of("shelf 3;thing a 3 0 2 1 1;").bears(0, 2), 2);
        Check.due("a round one beside its middle", Check.of("thing p 0 0 2 1 1;thing b 0 1 5 1 1 round;").bears(1, 2), 2);
        says("it FALLS then and pushes nothing;");
        TinTower x = Check.of("thing p 0 0 2 1 5;thing b 1 1 4 1 3;thing d 1 2 1 1 1;");
        Check.due("it tips", x.bears(1, 2), 1);
        Check.due("it bears", x.bears(1, 0), 4 * UNIT);
        load(x, 0, 5 * UNIT, 2);
        // What hangs has nothing to push on but what tips has: then it could be the weight that makes another one stand.
        TinTower y = Check.of("shelf 6;thing b 4 0 5 1 2;thing c 4 1 1 1 9 heart 2;thing d 5 1 3 1 1 heart 6;");
        Check.due("c stands", y.bears(1, 2), 0);
        Check.due("all of it", y.stands(7, 0, 0), 1);
        Check.due("b alone", y.stands(1, 0, 0), 0);
    }

    private static void wedged() {
        says("one that is WEDGED doesn't TIP:");
        TinTower x = Check.of("thing p 3 0 2 1 1;thing b 2 1 8 1 1;");
        Check.due("without", x.stands(3, 0, 0), 0);
        Check.due("wedged", x.stands(3, 0, 2), 1);
        Check.due("another one wedged", x.stands(3, 0, 1), 0);
        Check.due("on nothing it hangs all the same", x.stands(2, 0, 2), 0);
        Check.due("in the air it hangs all the same", Check.of("thing a 3 1 2 1 1;").stands(1, 0, 1), 0);
        Check.due("over the shelf's end", Check.of("shelf 4;thing a 3 0 3 1 1;").stands(1, 0, 1), 1);
        says("all goes on at the nearest end.");
        // The post's own edge goes to 8, what is on it comes at its right end, 8: its weight at 4 holds it.
        Check.due("at the right end", Check.of("shelf 4;thing p 2 0 3 1 1 heart 0;thing b 4 1 4 1 1;").stands(3, 0, 2), 1);
        Check.due("at the right end, heavier", Check.of("shelf 4;thing p 2 0 3 1 1 heart 0;thing b 4 1 4 1 2;").stands(3, 0, 2), 1);
        Check.due("at the right end, too heavy", Check.of("shelf 4;thing p 2 0 3 1 1 heart 0;thing b 4 1 4 1 3;").stands(3, 0, 2), 0);
        for (int first = 0; first < 2; first++) {
            for (int heavy = 1; heavy < 8; heavy++) {
                // q stands on p from 8 to 10, with its heart at 12 but 1 at 4 on its left: at 4 it is at its left end.
                String q = "thing q 4 1 4 1 3 heart 8;";
                String b = "thing b 0 2 5 1 " + heavy + " heart 0;";
                TinTower y = Check.of("thing p 6 0 3 1 1;" + (first == 0 ? b + q : q + b));
                int wedge = first == 0 ? 2 : 4;
                // It goes on at 8: 3 at 16 and h at 8 are to be at 18 at most and at 12 at least, then p stands, too.
                Check.due("at the left end, " + heavy + " heavy", y.stands(7, 0, wedge), heavy <= 3 ? 1 : 0);
            }
        }
    }

    /** Thing 0, whose edges are the first ones, goes on at the nearest end like any other. */
    private static void wedgedFirst() {
        says("all goes on at the nearest end.");
        // b, wedged, on p alone: at its right end, 8, it holds the plank q, which tips over the shelf's end without it.
        TinTower x = Check.of("shelf 5;thing b 3 2 9 1 9;thing p 3 1 1 1 1;thing q 3 0 6 1 3;");
        Check.due("b tips", x.stands(7, 0, 0), 0);
        Check.due("b wedged at 8", x.stands(7, 0, 1), 1);
        TinTower y = Check.of("shelf 5;thing b 3 2 9 1 9;thing p 4 1 1 1 1;thing q 3 0 6 1 3;");
        // 9 at 10 and 1 at 9 and 3 at 12 are 135 by 13, beyond 10.
        Check.due("b wedged at 10", y.stands(7, 0, 1), 0);
        // b, wedged, ahead of both its posts: at the left end of the left one, 4, and not at 12.
        TinTower z = Check.of("shelf 5;thing b 0 2 8 1 9 heart 0;thing p 2 1 1 1 1;thing r 6 1 1 1 1;thing q 2 0 6 1 3;");
        Check.due("b tips", z.stands(15, 0, 0), 0);
        Check.due("b wedged at 4", z.stands(15, 0, 1), 1);
        TinTower w = Check.of("shelf 5;thing b 0 2 8 1 9 heart 0;thing p 6 1 1 1 1;thing r 2 1 1 1 1;thing q 2 0 6 1 3;");
        Check.due("b wedged at 4, the posts told otherwise", w.stands(15, 0, 1), 1);
        // b beyond both of them, at the right end of the right one, 14: the plank tips.
        TinTower v = Check.of("shelf 5;thing b 2 2 9 1 9 heart 18;thing p 2 1 1 1 1;thing r 6 1 1 1 1;thing q 2 0 6 1 3;");
        Check.due("b wedged at 14", v.stands(15, 0, 1), 0);
        Check.due("both wedged", v.stands(15, 0, 9), 1);
    }

    /** The nearest end of the last edge, where it is beyond that; of the first one, where it is ahead of it. */
    private static void wedgedOfSeveral() {
        says("all goes on at the nearest end.");
        // Two posts on boards that tip by what comes at their ends: which of them falls tells where it went.
        String posts = "thing p 2 0 2 2 1;thing q 8 0 2 2 1;thing c 1 2 2 1 9;thing d 9 2 2 1 9;";
        for (int heart = 0; heart <= 24; heart++) {
            TinTower x = Check.of(posts + "thing b 0 3 12 1 20 heart " + heart + ";");
            Check.due("not wedged, heart " + heart, x.stands(31, 0, 0), heart >= 2 && heart <= 22 ? standsBetween(heart) : 0);
            Check.due("wedged, heart " + heart, x.stands(31, 0, 16), heart >= 2 && heart <= 22 ? standsBetween(heart) : 0);
            Check.due("all wedged, heart " + heart, x.stands(31, 0, 28), 1);
        }
    }

    /** The boards c, from 2 to 6 on a post from 4 to 8, and d, from 18 to 22 on a post from 16 to 20, bear 20 together. */
    private static int standsBetween(int heart) {
        if (heart <= 6) {
            // All of it on c: 9 at 4 and 20 at heart.
            return 9 * 4 + 20 * heart >= 29 * 4 ? 1 : 0;
        }
        if (heart >= 18) {
            return 9 * 20 + 20 * heart <= 29 * 20 ? 1 : 0;
        }
        // Between 6 and 18 each of them has its part at its inner end.
        return 1;
    }

    private static void held() {
        says("One that is HELD pushes nothing and doesn't fall.");
        TinTower x = Check.of("shelf 4;thing a 2 0 6 1 1;thing b 2 1 1 1 9;thing c 2 2 1 1 1;");
        Check.due("without", x.stands(7, 0, 0), 1);
        Check.due("the weight held", x.stands(7, 2, 0), 0);
        Check.due("the board, too", x.stands(7, 3, 0), 1);
        Check.due("what is on the weight held", x.stands(7, 4, 0), 1);
        Check.due("what would hang held", x.stands(4, 4, 0), 1);
        Check.due("what would tip held", x.stands(1, 1, 0), 1);
        Check.due("one held that isn't of the set", x.stands(5, 2, 0), 0);
        Check.due("held and wedged", x.stands(3, 3, 1), 1);
        Check.due("one may stand on what is held", x.stands(6, 2, 0), 1);
        Check.due("held it pushes nothing, wedged or not", x.stands(7, 2, 2), 0);
    }

    private static void stands() {
        says("A set of THINGS STANDS, if none of it FALLS.");
        TinTower x = Check.of("thing a 0 0 2 1 1;thing b 0 1 2 1 1;thing c 5 0 2 1 1;thing d 9 4 1 1 1;");
        int[] standing = {0, 1, 3, 4, 5, 7};
        for (int set = 0; set < 16; set++) {
            int due = 0;
            for (int s : standing) {
                due = s == set ? 1 : due;
            }
            Check.due("stands(" + set + ", 0, 0)", x.stands(set, 0, 0), due);
        }
    }

    private static void falls() {
        says("WHAT FALLS of a set: those that FALL are gone, then of the rest those that FALL, and so on: ROUNDS.");
        // A tower of nine, told from its top down: without the lowest one they fall one by one.
        StringBuilder tower = new StringBuilder();
        for (int i = 8; i >= 0; i--) {
            tower.append("thing ").append((char) ('a' + i)).append(" 0 ").append(i).append(" 1 1 1;");
        }
        TinTower x = Check.of(tower.toString());
        Check.due("falls(511, 1)", x.falls(511, 1), 0);
        Check.due("falls(255, 0)", x.falls(255, 0), 255);
        Check.due("falls(255, 1)", x.falls(255, 1), 8);
        for (int round = 0; round < 8; round++) {
            Check.due("falls(255, " + (round + 2) + ")", x.falls(255, round + 2), 1 << 7 - round);
        }
        Check.due("falls(255, 10)", x.falls(255, 10), 0);
        // Thing 0 on two others, of which the one falls first: then it tips.
        TinTower y = Check.of("thing b 0 2 4 1 1 heart 2;thing p 0 1 1 1 1;thing q 3 0 1 2 1;");
        Check.due("all rounds", y.falls(7, 0), 3);
        Check.due("falls(7, 1)", y.falls(7, 1), 2);
        Check.due("p first", y.falls(7, 2), 2);
        Check.due("then b", y.falls(7, 3), 1);
        // What stood by the weight of one that falls, which pushes nothing, falls with it.
        TinTower z = Check.of("shelf 4;thing a 2 0 6 1 1;thing b 0 1 3 1 9;thing d 0 0 1 1 1;");
        Check.due("b stands on a and d", z.falls(7, 0), 0);
        Check.due("both at once", z.falls(3, 1), 1);
        Check.due("the first round", z.falls(3, 2), 3);
        Check.due("no second one", z.falls(3, 3), 0);
    }
}
