/** Terms 3: what may be taken, orders, more weight, pushes, hands, things pulled out, piles. */
final class TermsThree {
    private static final String THREE = "thing a 0 0 2 3 1;thing b 0 3 2 2 1;thing c 0 5 2 1 1;";
    /** A board b on a post p, a weight l at its left and r at its right end, a heavy one m in the middle. */
    private static final String BALANCE = "thing m 5 2 2 1 20;thing l 0 2 1 1 1;thing r 11 2 1 1 1;thing b 0 1 12 1 1;thing p 5 0 2 1 1;";
    /** A board c over the shelf's end, a and b on its right, p at its left. */
    private static final String BOARD = "shelf 4;thing a 7 1 1 1 9;thing b 6 1 1 1 9;thing c 2 0 6 1 5 heart 2;thing p 2 1 1 1 99;";

    private TermsThree() {
    }

    static void run() {
        may();
        downWithOne();
        downWithTwo();
        downChanging();
        downHeld();
        downFirst();
        most();
        slides();
        tipsOver();
        greatestPush();
        doubts();
        hands();
        pulledAgain();
        pulledDown();
        pulledNowhere();
        hangs();
        highest();
        highestOfSeveral();
        overInOrder();
        overTheEnd();
    }

    private static void says(String words) {
        Doc.says("3", words);
    }

    private static void may(String text, int due) {
        Check.due(text + " may()", Check.of(text).may(), due);
    }

    private static void may() {
        says("MAY: THINGS that may be taken, each alone, so that the rest STANDS.");
        may("", 0);
        may("thing a 0 1 1 1 1;", 1);
        may(THREE, 4);
        may("thing c 0 5 2 1 1;thing a 0 0 2 3 1;thing b 0 3 2 2 1;", 1);
        may("thing a 0 0 1 1 1;thing b 1 0 1 1 1;thing c 2 0 1 1 1;", 7);
        may("thing a 0 0 1 1 1;thing b 1 1 1 1 1;thing c 2 1 1 1 1;", 0);
        may(BALANCE, 7);
        may("shelf 4;thing a 2 0 6 1 1;thing b 2 1 1 1 9;", 0);
        may("shelf 4;thing b 2 1 1 1 9;thing a 2 0 6 1 1;", 0);
        TinTower x = Check.of(BALANCE);
        x.take(0);
        Check.due("l and r keep the balance", x.may(), 0);
    }

    private static void down(String text, int hands, int... order) {
        TinTower x = Check.of(text);
        String call = text + " down(" + hands + ", ";
        Check.due(call + "0)", x.down(hands, 0), 1);
        for (int i = 0; i < order.length; i++) {
            Check.due(call + (i + 1) + ")", x.down(hands, i + 1), order[i]);
        }
        Check.due(call + (order.length + 1) + ")", x.down(hands, order.length + 1), -1);
    }

    private static void downNever(String text, int hands) {
        Check.due(text + " down(" + hands + ", 0)", Check.of(text).down(hands, 0), 0);
        Check.due(text + " down(" + hands + ", 1)", Check.of(text).down(hands, 1), -1);
    }

    private static void downWithOne() {
        says("DOWN with one hand: an order in which each may be taken and the rest STANDS, to the last.");
        down("", 1);
        down("thing a 0 1 1 1 1;", 1, 0);
        down(THREE, 1, 2, 1, 0);
        down("thing b 0 3 2 2 1;thing a 0 0 2 3 1;thing c 0 5 2 1 1;", 1, 2, 0, 1);
        down("thing a 0 0 2 2 1;thing g 5 3 1 1 1;", 1, 1, 0);
        downNever("thing a 0 3 2 2 1;thing g 5 3 1 1 1;", 1);
        // m may be taken at first, but then none of the others may.
        down(BALANCE, 1, 1, 2, 0, 3, 4);
        // What is there at the end, the board with the weight that holds it, can't be had with one hand.
        downNever("shelf 4;thing d 0 0 1 1 1;thing a 2 0 6 1 1;thing b 2 1 1 1 9;", 1);
    }

    private static void downWithTwo() {
        says("With two: at first,");
        down("thing a 0 3 2 2 1;thing g 5 3 1 1 1;", 2, 0, 1);
        downNever("thing a 0 1 1 1 1;thing b 2 1 1 1 1;thing c 4 1 1 1 1;", 2);
        says("or whenever what is there STANDS by itself,");
        down("thing a 0 0 2 2 1;thing b 0 2 2 2 1;", 2, 0, 1);
        // b is held and a is taken, c then, and not b, for c would hang.
        down(THREE, 2, 0, 2, 1);
        // Behind the three of the one tower the hand is free for the other one.
        down("thing a 0 0 1 1 1;thing b 0 1 1 1 1;thing c 3 0 1 1 1;thing d 3 1 1 1 1;", 2, 0, 1, 2, 3);
        // g hangs, so it must be held from the first on.
        down("thing a 0 0 1 1 1;thing b 0 1 1 1 1;thing g 3 1 1 1 1;", 2, 1, 0, 2);
        down("thing g 3 1 1 1 1;thing a 0 0 1 1 1;thing b 0 1 1 1 1;", 2, 0, 1, 2);
    }

    /** Which one is held is changed where what is there stands, and there alone. */
    private static void downChanging() {
        says("the other hand may HOLD one THING, or another one, or none;");
        // b and then d: both towers stand in between.
        down("thing a 0 0 1 1 1;thing b 0 1 1 1 1;thing c 3 0 1 1 1;thing d 3 1 1 1 1;thing e 3 2 1 1 1;", 2, 0, 1, 2, 4, 3);
        down(BALANCE, 2, 0, 1, 2, 3, 4);
        down("", 2);
        down("thing a 0 0 1 1 1;", 2, 0);
        // While b is held no other one can be: c stays under d up to the end.
        down("thing a 0 0 1 1 1;thing b 0 1 1 1 1;thing z 0 2 1 1 1;thing c 3 0 1 1 1;thing d 3 1 1 1 1;", 2, 0, 2, 1, 3, 4);
    }

    private static void downHeld() {
        says("then one is taken (also the one that is HELD: nothing is HELD then) so that the rest STANDS with that HELD.");
        // Held the weight b pushes nothing, so the board a can't stay: a is taken, and then b that was held.
        down("shelf 4;thing d 0 0 1 1 1;thing a 2 0 6 1 1;thing b 2 1 1 1 9;", 2, 0, 1, 2);
        down("shelf 4;thing b 2 1 1 1 9;thing a 2 0 6 1 1;", 2, 0, 1);
        // g must be held: then nobody holds the board or its weight.
        down("shelf 4;thing a 2 0 6 1 1;thing b 2 1 1 1 9;thing g 20 9 1 1 1;", 2, 2, 0, 1);
        // 0 itself must be held, for two stand on it.
        down("thing b 0 1 2 1 1;thing a 0 0 2 1 1;thing c 0 2 1 1 1;thing d 1 2 1 1 1;", 2, 1, 2, 3, 0);
        // c presses b's left, z its right, and b and e keep the board a. Behind y and z b would be held, for c tips it yet:
        // then c can't be taken, though without it all stands by itself. So z goes ahead of y, with c held.
        down("shelf 7;thing y 0 0 1 1 1;thing z 6 3 1 1 9 heart 2;thing c 2 3 3 1 4 heart 3;thing s 5 1 1 1 1;"
                + "thing e 2 1 1 2 1;thing b 4 2 3 1 3 heart 3;thing a 2 0 12 1 2 heart 20;", 2, 1, 0, 2, 4, 5, 3, 6);
        // Three that hang by turns: one can hold but one of two.
        downNever("thing a 0 0 1 1 1;thing b 3 1 1 1 1;thing c 5 1 1 1 1;thing d 7 1 1 1 1;", 2);
        down("thing a 0 0 1 1 1;thing b 3 1 1 1 1;thing c 5 1 1 1 1;", 2, 1, 0, 2);
    }

    private static void downFirst() {
        says("Of several orders the first by what is taken, one by one.");
        down("thing a 0 0 1 1 1;thing b 1 0 1 1 1;thing c 2 0 1 1 1;", 1, 0, 1, 2);
        down("thing a 0 0 1 1 1;thing b 1 0 1 1 1;thing c 2 0 1 1 1;", 2, 0, 1, 2);
        down("thing a 0 0 1 1 1;thing b 0 1 1 1 1;thing c 2 0 1 1 1;thing d 2 1 1 1 1;", 1, 1, 0, 3, 2);
        down("thing a 0 0 1 1 1;thing b 2 0 1 1 1;thing c 2 1 1 1 1;thing d 0 1 1 1 1;", 1, 2, 1, 3, 0);
        StringBuilder apart = new StringBuilder();
        for (int i = 0; i < 9; i++) {
            apart.append("thing ").append((char) ('a' + i)).append(' ').append(i).append(" 0 1 1 1;");
        }
        down(apart.toString(), 1, 0, 1, 2, 3, 4, 5, 6, 7, 8);
        down(apart.toString(), 2, 0, 1, 2, 3, 4, 5, 6, 7, 8);
        StringBuilder tower = new StringBuilder();
        for (int i = 0; i < 9; i++) {
            tower.append("thing ").append((char) ('a' + i)).append(" 0 ").append(i).append(" 1 1 1;");
        }
        down(tower.toString(), 1, 8, 7, 6, 5, 4, 3, 2, 1, 0);
        down(tower.toString(), 2, 0, 8, 7, 6, 5, 4, 3, 2, 1);
    }

    private static void most() {
        says("BEARS more: the greatest w (0 .. 200) so that with 1 .. w more WEIGHT of a THING (at its heart) all STANDS each time.");
        TinTower x = Check.of("shelf 4;thing a 2 0 6 1 5 heart 2;thing b 7 1 1 1 1;");
        Check.due("most(1): 30 and 15 w are 8 (5 and w) at most", x.most(1), 0);
        Check.due("most(0)", x.most(0), 200);
        TinTower y = Check.of("shelf 4;thing b 7 1 1 1 1;thing a 2 0 6 1 50 heart 0;");
        // 200 and 15 w are 8 (50 and w) at most: w is 28 at most, 1 of it there.
        Check.due("most(0): 27", y.most(0), 27);
        TinTower h = Check.of("shelf 4;thing b 4 1 4 1 1 heart 7;thing a 2 0 6 1 50 heart 0;");
        Check.due("most(0) at its heart", h.most(0), 27);
        Check.due("most(1): what is on it goes on at 15", h.most(1), 200);
        // 7 w are 1407 at most: 201 with the one that is there, 208 are too many by 7.
        TinTower z = Check.of("shelf 4;thing b 7 1 1 1 1;thing a 2 0 6 1 99 heart 0;thing c 2 1 1 1 99 heart 0;thing d 2 2 1 1 99 heart 0;"
                + "thing e 3 1 1 1 73 heart 1;");
        // 4 times 297 and 7 times 73 and 15 w are 8 (370 and w) at most: 1261 by 7 is 180.
        Check.due("most(0): 179", z.most(0), 179);
        // t's weight brings the load beyond the post's end, long ahead of where it all would go on at the other post.
        String posts = "thing s 0 0 2 1 1;thing c 0 1 4 1 1 heart 2;thing d 10 0 2 2 1;thing b 0 2 12 1 20 heart 2;";
        Check.due("each time: 1", Check.of(posts + "thing t 11 3 1 1 1;").most(4), 1);
        Check.due("far more would stand again", Check.of(posts + "thing t 11 3 1 1 99;thing u 11 4 1 1 99;").stands(63, 0, 0), 1);
        Check.due("then 200", Check.of(posts + "thing t 11 3 1 1 99;thing u 11 4 1 1 99;").most(4), 200);
    }

    private static void push(String text, int fromLeft, int fromRight) {
        Check.due(text + " push(0, 0, 0)", Check.of(text).push(0, 0, 0), fromLeft);
        Check.due(text + " push(0, 1, 0)", Check.of(text).push(0, 1, 0), fromRight);
    }

    private static void slides() {
        says("PUSH from the left (0) or right (1) at the top of a THING that STANDS in what is there:");
        push("thing a 1 0 4 2 10 heart 8 rough 10;", 0, 10);
        push("thing a 1 0 4 2 10 heart 0 rough 10;", 10, 0);
        says("it slides, if the push is more than ROUGH times its LOAD by 10 (in 27720ths);");
        push("thing a 0 0 12 1 10;", 5, 5);
        push("thing a 0 0 12 1 9;", 4, 4);
        push("thing a 0 0 12 1 11;", 5, 5);
        push("thing a 0 0 12 1 12;", 6, 6);
        push("thing a 0 0 12 1 99 rough 10;", 99, 99);
        push("thing a 0 0 12 1 99 rough 0;", 0, 0);
        push("thing a 0 0 12 1 99 rough 1;", 9, 9);
        push("thing a 0 0 12 1 10;thing b 5 1 2 1 30;", 20, 20);
        push("thing a 0 0 12 1 10;thing b 5 1 2 1 29;", 19, 19);
    }

    private static void tipsOver() {
        says("it tips over the EDGES' far end e, if the push times twice HIGH is more than LOAD times e less MOMENT");
        push("thing a 0 0 4 4 10 rough 10;", 5, 5);
        push("thing a 0 0 4 5 10 rough 10;", 4, 4);
        push("thing a 0 0 4 3 10 rough 10;", 6, 6);
        push("shelf 4;thing a 2 0 4 2 10 heart 2 rough 10;", 5, 5);
        push("thing a 1 1 8 1 20 rough 10;thing p 0 0 2 1 1;thing q 8 0 2 1 1;", 20, 20);
        says("(from the left; likewise from the right):");
        push("thing a 0 0 4 2 10 heart 6 rough 10;", 5, 10);
        push("thing a 0 0 4 2 10 heart 2 rough 10;", 10, 5);
        push("thing a 7 0 4 6 10 heart 6 rough 10;", 1, 5);
        // Its posts' ends are at 2 and 18, and its heart is at 8.
        push("thing a 1 1 8 9 20 rough 10 heart 6;thing p 0 0 2 1 1;thing q 8 0 2 1 1;", 11, 6);
        push("thing a 1 1 8 9 20 rough 10 heart 6;thing q 8 0 2 1 1;thing p 0 0 2 1 1;", 11, 6);
        // Of three posts the one that is gone bears no more: from 14 on.
        TinTower x = Check.of("thing a 1 1 8 9 20 rough 10 heart 6;thing p 0 0 2 1 1;thing q 8 0 2 1 1;thing r 5 0 2 1 1;");
        Check.due("three posts", x.push(0, 0, 0), 11);
        x.take(2);
        Check.due("two posts", x.push(0, 0, 0), 6);
        Check.due("two posts, from the right", x.push(0, 1, 0), 6);
        x.undo();
        x.take(1);
        Check.due("it falls", x.there(), 12);
        // Its edges begin at 0, and there it tips over from the right.
        push("thing a 0 1 8 9 20 rough 10 heart 6;thing p 0 0 2 1 1;thing q 6 0 2 1 1;", 11, 6);
        // Where it has been is no edge any more: from 4 to 8 now, its heart at 6.
        TinTower y = Check.of("thing a 3 1 4 4 20 rough 10;thing p 2 0 2 1 1;thing q 6 0 2 1 1;");
        Check.due("two posts, the far end at 14", y.push(0, 0, 0), 10);
        y.move(0, -1);
        Check.due("one post, the far end at 8", y.there(), 7);
        Check.due("from the left", y.push(0, 0, 0), 0);
        Check.due("from the right", y.push(0, 1, 0), 10);
        // On a round one it has a point alone, and no push at all.
        push("thing a 0 2 4 2 10;thing r 1 0 2 2 1 round;", 0, 0);
    }

    private static void greatestPush() {
        says("the greatest push that does neither, cut to whole ones of 27720; a round one: 0.");
        push("thing a 0 0 4 3 10 rough 9;", 6, 6);
        push("thing a 0 0 4 3 10 rough 7;", 6, 6);
        push("thing a 0 0 4 3 10 rough 6;", 6, 6);
        push("thing a 0 0 4 3 10;", 5, 5);
        push("thing a 0 0 4 12 1;", 0, 0);
        push("thing a 0 0 4 2 99 round rough 10;", 0, 0);
        push("thing a 0 0 4 2 99 round;thing b 0 2 4 2 99;", 0, 0);
    }

    private static void doubts() {
        says("SURE: with ROUGH less DOUBT (0 at least), MAYBE: with ROUGH and DOUBT.");
        int[][] due = {{5, 3, 7}, {1, 0, 4}, {3, 0, 6}, {10, 5, 15}, {0, 0, 5}, {5, 5, 5}};
        String[] told = {"doubt 2", "rough 1 doubt 3", "rough 3 doubt 3", "rough 10 doubt 5", "rough 0 doubt 5", ""};
        for (int i = 0; i < told.length; i++) {
            String text = "thing a 0 0 12 1 10 " + told[i] + ";";
            for (int kind = 0; kind < 3; kind++) {
                Check.due(text + " push(0, 0, " + kind + ")", Check.of(text).push(0, 0, kind), due[i][kind]);
                Check.due(text + " push(0, 1, " + kind + ")", Check.of(text).push(0, 1, kind), due[i][kind]);
            }
        }
    }

    private static void hands(String text, int thing, boolean wedges, int number, int which) {
        Check.due(text + " hands(" + thing + ", " + wedges + ", 0)", Check.of(text).hands(thing, wedges, 0), number);
        Check.due(text + " hands(" + thing + ", " + wedges + ", 1)", Check.of(text).hands(thing, wedges, 1), which);
    }

    private static void hands() {
        says("HANDS for one: the fewest THINGS to be HELD (WEDGED) so that the rest STANDS without it:");
        hands(THREE, 2, false, 0, 0);
        hands(THREE, 2, true, 0, 0);
        hands(THREE, 0, false, 1, 2);
        hands(THREE, 0, true, -2, -2);
        hands("thing a 0 1 1 1 1;thing b 2 1 1 1 1;thing c 4 1 1 1 1;", 1, false, 2, 5);
        hands("thing a 0 1 1 1 1;thing b 2 1 1 1 1;thing c 4 1 1 1 1;", 1, true, -2, -2);
        // Without p both a and b may be held, bits 3, or c alone, bits 4.
        hands(BOARD, 3, false, 1, 4);
        hands(BOARD, 3, true, 1, 4);
        hands(BOARD, 2, false, 3, 11);
        says("of several the least bits.");
        hands("shelf 4;thing b 7 1 1 1 9;thing a 2 0 6 1 5 heart 2;thing z 2 1 1 1 20;", 2, false, 1, 1);
        hands("shelf 4;thing a 2 0 6 1 5 heart 2;thing b 7 1 1 1 9;thing z 2 1 1 1 20;", 2, false, 1, 1);
        hands("shelf 4;thing z 2 1 1 1 20;thing b 7 1 1 1 9;thing a 2 0 6 1 5 heart 2;", 0, false, 1, 2);
        // Without r the balance tips by l: it, the board or even the post may be held; but for the post.
        hands("thing p 5 0 2 1 1;thing b 0 1 12 1 1;thing l 0 2 1 1 1;thing r 11 2 1 1 1;", 3, false, 1, 2);
        hands("thing l 0 2 1 1 1;thing p 5 0 2 1 1;thing b 0 1 12 1 1;thing r 11 2 1 1 1;", 3, false, 1, 1);
        hands("thing l 0 2 1 1 1;thing p 5 0 2 1 1;thing b 0 1 12 1 1;thing r 11 2 1 1 1;", 3, true, 1, 4);
    }

    private static void drops(String text, int thing, int... feet) {
        TinTower x = Check.of(text);
        for (int other = 0; other < feet.length; other++) {
            if (other != thing) {
                Check.due(text + " drops(" + thing + ", " + other + ")", x.drops(thing, other), feet[other]);
            }
        }
    }

    private static void pulledAgain() {
        says("PULLED out sidewise: it is gone;");
        Check.due("pulled(0)", Check.of(THREE).pulled(0), 6);
        Check.due("pulled(2)", Check.of(THREE).pulled(2), 3);
        says("then, again and again, of those without an EDGE that can come further down (or nowhere)");
        drops(THREE, 0, -1, 0, 2);
        drops(THREE, 1, 0, -1, 3);
        drops(THREE, 2, 0, 3, -1);
        // What has an edge stays, though it tips.
        drops("thing a 0 0 2 2 1;thing b 6 0 2 2 1;thing c 0 2 8 1 1;", 0, -1, 0, 2);
        // A round one by its side on the post has no edge, but can't come further down.
        drops("thing p 0 0 3 2 1;thing r 2 2 4 1 1 round;thing z 9 0 1 1 1;", 2, 0, 2, -1);
        // What hung ahead comes down, too.
        drops("thing z 9 0 1 1 1;thing h 3 7 1 1 1;", 0, -1, 0);
        says("the one of the lowest FOOT (of several the first)");
        drops("thing c 0 7 2 1 1;thing b 0 4 2 2 1;thing z 9 0 1 1 1;thing a 1 0 4 1 1;", 2, 3, 1, -1, 0);
        drops("thing a 1 0 4 1 1;thing b 0 4 2 2 1;thing c 0 7 2 1 1;thing z 9 0 1 1 1;", 3, 0, 1, 3, -1);
        drops("thing h 4 5 1 1 1;thing g 0 5 1 1 1;thing z 9 0 1 1 1;", 2, 0, 0, -1);
    }

    private static void pulledDown() {
        says("comes straight down to the highest top not above its FOOT of those");
        drops("thing a 0 0 4 2 1;thing b 0 2 2 3 1;thing h 1 9 4 1 1;thing z 9 0 1 1 1;", 3, 0, 2, 5, -1);
        drops("thing a 0 0 4 2 1;thing b 2 2 2 9 1;thing h 0 5 2 1 1;thing z 9 0 1 1 1;", 3, 0, 2, 2, -1);
        // c under which it hangs is above its foot.
        drops("thing p 4 0 1 9 1;thing c 0 9 9 1 1;thing h 0 5 3 1 1;thing z 9 0 1 1 1;", 3, 0, 9, 0, -1);
        says("with which it has more than an end in common along (round or not),");
        drops("thing a 0 0 2 2 1;thing h 2 5 2 1 1;thing z 9 0 1 1 1;", 2, 0, 0, -1);
        drops("thing a 4 0 2 2 1;thing h 2 5 2 1 1;thing z 9 0 1 1 1;", 2, 0, 0, -1);
        drops("thing a 3 0 2 2 1;thing h 2 5 2 1 1;thing z 9 0 1 1 1;", 2, 0, 2, -1);
        drops("thing r 0 0 3 2 1 round;thing h 2 5 3 1 1;thing z 9 0 1 1 1;", 2, 0, 2, -1);
        drops("thing a 0 0 3 2 1;thing r 2 5 4 1 1 round;thing z 9 0 1 1 1;", 2, 0, 2, -1);
        drops("thing s 0 0 3 2 1 round;thing r 2 5 4 1 1 round;thing z 9 0 1 1 1;", 2, 0, 2, -1);
        drops("thing s 0 0 2 2 1 round;thing r 2 5 4 1 1 round;thing z 9 0 1 1 1;", 2, 0, 0, -1);
    }

    private static void pulledNowhere() {
        says("or to 0, if it has some of the shelf;");
        drops("shelf 4;thing z 0 0 1 1 1;thing h 3 5 4 1 1;", 0, -1, 0);
        drops("shelf 4;thing z 0 0 1 1 1;thing h 3 5 4 1 1 round;", 0, -1, 0);
        says("without either it is lost;");
        drops("shelf 4;thing z 0 0 1 1 1;thing h 4 5 4 1 1;", 0, -1, -2);
        drops("shelf 4;thing z 0 0 1 1 1;thing h 4 0 4 1 1;thing g 5 1 1 1 1;", 0, -1, -2, -2);
        Check.due("pulled(0)", Check.of("shelf 4;thing z 0 0 1 1 1;thing h 4 5 4 1 1;").pulled(0), 0);
        // Not while there is something below that stays.
        drops("shelf 4;thing z 0 0 1 1 1;thing a 2 0 4 2 1;thing h 4 5 4 1 1;", 0, -1, 0, 2);
        says("then WHAT FALLS is gone.");
        Check.due("pulled(0): h tips", Check.of("shelf 4;thing z 0 0 1 1 1;thing h 3 5 4 1 1;").pulled(0), 0);
        Check.due("pulled(0): h stands", Check.of("shelf 4;thing z 0 0 1 1 1;thing h 3 5 4 1 1 heart 2;").pulled(0), 2);
        Check.due("pulled(0): the board tips", Check.of("thing a 0 0 2 2 1;thing b 6 0 2 2 1;thing c 0 2 8 1 1;thing d 0 3 1 1 1;").pulled(0), 2);
        Check.due("pulled(2): the round hangs", Check.of("thing a 0 0 3 2 1;thing r 2 5 4 1 1 round;thing z 9 0 1 1 1;").pulled(2), 1);
    }

    private static void hangs(String text, int thing, int number) {
        Check.due(text + " hangs(0)", Check.of(text).hangs(0), thing);
        Check.due(text + " hangs(1)", Check.of(text).hangs(1), number);
    }

    private static void hangs() {
        says("MOST: the THING without which most FALL (in all ROUNDS), of several the first.");
        hangs(THREE, 0, 2);
        hangs("thing c 0 5 2 1 1;thing b 0 3 2 2 1;thing a 0 0 2 3 1;", 2, 2);
        hangs("thing z 9 0 1 1 1;" + THREE, 1, 2);
        hangs("thing a 0 0 1 1 1;thing b 0 1 1 1 1;thing c 2 0 1 1 1;thing d 2 1 1 1 1;", 0, 1);
        hangs("thing b 0 1 1 1 1;thing a 0 0 1 1 1;thing c 2 0 1 1 1;thing d 2 1 1 1 1;", 1, 1);
        hangs("thing a 0 0 1 1 1;thing b 2 0 1 1 1;", 0, 0);
        hangs("thing a 0 0 1 1 1;", 0, 0);
        hangs("thing a 0 0 1 1 1;thing h 5 5 1 1 1;", 0, 1);
        hangs("thing a 0 1 1 1 1;thing b 0 3 1 1 1;thing c 0 5 1 1 1;", 0, 2);
    }

    private static void highest(String text, int set, int high, int which) {
        Check.due(text + " highest(" + set + ", 0)", Check.of(text).highest(set, 0), high);
        Check.due(text + " highest(" + set + ", 1)", Check.of(text).highest(set, 1), which);
    }

    private static void highest() {
        says("HIGHEST of told THINGS: each may be laid on its side (WIDE and HIGH changed),");
        highest("thing a 0 0 5 2 1;", 1, 5, 1);
        highest("thing a 0 0 2 5 1;", 1, 5, 1);
        // b on its side, 11 wide, and a upon it on its side.
        highest("thing a 0 0 12 1 1;thing b 0 1 12 11 1;", 3, 24, 3);
        highest("thing a 0 0 12 12 1;thing b 0 12 1 1 1;", 3, 13, 3);
        highest("thing a 0 0 2 5 1 round;thing b 5 0 3 3 1;", 3, 8, 3);
        highest("thing a 0 0 5 2 1 round;thing b 5 0 3 3 1;", 3, 8, 3);
        says("one upon the other, each narrower than the one below,");
        highest("thing a 0 0 3 3 1;thing b 3 0 3 3 1;", 3, 3, 1);
        highest("thing a 0 0 3 3 1;thing b 3 0 2 2 1;", 3, 5, 3);
        highest("thing a 0 0 3 9 1;thing b 3 0 3 9 1;", 3, 12, 3);
        highest("thing a 0 0 4 4 1;thing b 4 0 3 3 1;thing c 7 0 2 2 1;thing d 9 0 1 1 1;", 15, 10, 15);
        highest("thing d 0 0 1 1 1;thing c 1 0 2 2 1;thing a 3 0 4 4 1;thing b 7 0 3 3 1;", 15, 10, 15);
        says("a round one with none upon it:");
        highest("thing a 0 0 4 4 1 round;thing b 4 0 3 3 1;thing c 7 0 2 2 1;", 7, 5, 6);
        highest("thing a 0 0 4 4 1;thing b 4 0 3 3 1 round;thing c 7 0 2 2 1;", 7, 7, 3);
        highest("thing a 0 0 4 4 1;thing b 4 0 3 3 1;thing c 7 0 2 2 1 round;", 7, 9, 7);
        highest("thing a 0 0 4 4 1 round;thing b 4 0 3 3 1 round;", 3, 4, 1);
    }

    private static void highestOfSeveral() {
        says("the greatest sum of HIGHS of any of them;");
        highest("thing a 0 0 9 9 1;thing b 9 0 2 2 1;thing c 11 0 1 1 1 round;", 7, 12, 7);
        highest("thing a 0 0 9 9 1;thing b 9 0 2 2 1;thing c 11 0 1 1 1 round;", 6, 3, 6);
        highest("thing a 0 0 9 9 1;thing b 9 0 2 2 1;thing c 11 0 1 1 1 round;", 5, 10, 5);
        highest("thing a 0 0 9 9 1 round;thing b 9 0 2 2 1;thing c 11 0 1 1 1;", 7, 9, 1);
        highest("thing a 0 0 9 9 1;", 0, 0, 0);
        StringBuilder nine = new StringBuilder();
        for (int i = 0; i < 9; i++) {
            nine.append("thing ").append((char) ('a' + i)).append(' ').append(i).append(" 0 1 12 1;");
        }
        // But one can stand on end, upon one that lies.
        highest(nine.toString(), 511, 13, 3);
        says("of several the fewest THINGS,");
        highest("thing d 0 0 2 2 1;thing e 2 0 1 2 1 round;thing f 4 0 4 4 1 round;", 3, 4, 3);
        highest("thing d 0 0 2 2 1;thing e 2 0 1 2 1 round;thing f 4 0 4 4 1 round;", 7, 4, 4);
        highest("thing f 4 0 4 4 1 round;thing d 0 0 2 2 1;thing e 2 0 1 2 1 round;", 7, 4, 1);
        says("then the least bits.");
        highest("thing a 0 0 4 4 1 round;thing b 4 0 4 4 1;thing c 8 0 4 4 1 round;", 7, 4, 1);
        highest("thing a 0 0 4 4 1 round;thing b 4 0 4 4 1;thing c 8 0 4 4 1 round;", 6, 4, 2);
        highest("thing a 0 0 4 4 1;thing b 4 0 3 3 1;thing c 8 0 3 3 1;thing d 12 0 4 4 1;", 15, 7, 3);
        highest("thing a 0 0 4 4 1;thing b 4 0 3 3 1;thing c 8 0 3 3 1;thing d 12 0 4 4 1;", 14, 7, 10);
        highest("thing a 0 0 4 4 1;thing b 4 0 3 3 1;thing c 8 0 3 3 1;thing d 12 0 4 4 1;", 13, 7, 5);
        highest("thing b 4 0 3 3 1;thing c 8 0 3 3 1;thing d 12 0 4 4 1;thing a 0 0 4 4 1;", 15, 7, 5);
    }

    private static void over(String text, int first, int second, int third, int due) {
        Check.due(text + " over(" + first + ", " + second + ", " + third + ")", Check.of(text).over(first, second, third), due);
    }

    private static void overInOrder() {
        says("OVER of two or three told THINGS by their numbers in order, the lowest first: each upon the one ahead");
        String text = "thing a 0 0 12 1 1;thing b 12 0 1 1 99;thing c 14 0 2 2 1 round;thing d 0 1 12 1 1;thing e 0 2 12 1 1;";
        over(text, 0, 1, -1, 11);
        over(text, 1, 0, -1, 6);
        over(text, 0, 3, -1, 9);
        // 6, 3 and 2 of 12 by the old rule.
        over(text, 0, 3, 4, 11);
        over(text, 3, 0, 4, 11);
        // b's weight upon it holds d's left end, just at the shelf's.
        over(text, 0, 3, 1, 11);
        over(text, 2, 0, -1, 6);
        // The two at a's left end, 2 halves of it on the shelf, let a itself reach farthest.
        over(text, 0, 2, 3, 10);
        says("the greatest LEFT and WIDE of any");
        over("thing a 0 0 12 1 99;thing b 0 1 1 1 1;", 0, 1, -1, 6);
        over("thing a 0 0 12 1 1;thing b 0 1 1 1 99;", 0, 1, -1, 11);
        over("thing a 0 0 1 1 99;thing b 0 1 9 1 1;thing c 0 2 1 1 1;", 0, 1, 2, 6);
        over("thing a 0 0 1 1 99;thing b 0 1 9 1 1;thing c 0 2 1 1 1;", 0, 1, -1, 4);
        over("thing a 0 0 1 1 1;thing b 0 1 12 1 99;thing c 0 2 1 1 99;", 0, 1, 2, 8);
        over("thing a 0 0 12 1 99;thing b 0 1 1 1 1;thing c 0 2 12 1 1;", 0, 1, 2, 11);
        over("thing a 0 0 2 1 1 round;thing b 0 1 12 1 3 heart 0;thing c 0 2 1 1 1 heart 2;", 0, 1, 2, 11);
    }

    private static void overTheEnd() {
        says("(the first on a shelf that comes from far left and ends at 0)");
        over("thing a 0 0 4 1 1 heart 0;thing b 5 0 4 1 1 heart 0;", 0, 1, -1, 5);
        over("thing a 0 0 4 1 1 heart 8;thing b 5 0 4 1 1 heart 8;", 0, 1, -1, 1);
        over("shelf 1;thing a 0 0 12 1 1;thing b 12 0 12 1 1;", 0, 1, -1, 9);
        over("thing a 0 0 2 1 1 round;thing b 2 0 2 1 1 round;", 0, 1, -1, 1);
        over("thing a 0 0 12 12 1 heart 0;thing b 12 0 1 1 99 heart 0;", 0, 1, -1, 11);
        says("at whole LEFTS (below 0, too),");
        over("thing a 0 0 4 1 1;thing b 4 0 4 1 1;", 0, 1, -1, 3);
        over("thing a 0 0 3 1 1;thing b 4 0 3 1 1;", 0, 1, -1, 2);
        over("thing a 0 0 1 1 1;thing b 4 0 1 1 1;", 0, 1, -1, 0);
        over("thing a 0 0 3 1 1 round;thing b 4 0 3 1 1 round;", 0, 1, -1, 1);
        says("so that they STAND:");
        over("thing a 0 0 4 1 1;thing b 4 0 4 1 1 heart 8;", 0, 1, -1, 2);
        over("thing a 0 0 4 1 1;thing b 4 0 4 1 1 heart 0;", 0, 1, -1, 4);
        says("(NONE, if they never do).");
        over("thing r 0 0 2 2 1 round heart 0;thing a 5 0 4 1 1;", 0, 1, -1, -1);
        over("thing r 0 0 2 2 1 round heart 0;thing a 5 0 4 1 1;", 1, 0, -1, -1);
        over("thing r 0 0 2 2 1 round;thing s 5 0 3 3 1 round;", 0, 1, -1, -1);
        over("thing r 0 0 2 2 1 round;thing s 5 0 4 4 1 round;", 0, 1, -1, 2);
        over("thing r 0 0 2 2 1 round;thing s 5 0 4 4 1 round;thing q 9 0 3 3 1 round;", 0, 1, 2, -1);
    }
}
