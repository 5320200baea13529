import java.util.NoSuchElementException;

/** Long runs of calls on piles by a fixed series of numbers: the class and the model must answer alike. */
public final class RandomTest {
    private static final int RUNS = Integer.getInteger("runs", 400);
    private static final int CALLS = 512;
    private static final String[] WORDS = {"shelf", "thing", "round", "rough", "heart", "doubt", "child", "or", "and",
        "not", "weight", "wide", "high", "left", "foot", "above", "load", "a", "bb", "tin", "sevenxx", "abcdef", "(",
        ")", "<", "<=", "=", "<>", ">=", ">", "+", "-", "*", "/", ";", "0", "1", "13", "40", "100", "9999", "10000",
        "99999999999999999999", "007", "!", "A", "\u00e9", "\n", "#", "\t"};

    private static long seed = 1;

    private static int below(int n) {
        seed = seed * 6364136223846793005L + 1442695040888963407L;
        return (int) ((seed >>> 33) % n);
    }

    private static boolean oneIn(int n) {
        return below(n) == 0;
    }

    public static void main(String[] args) {
        seed = Long.getLong("seed", 1);
        for (int run = 0; run < RUNS; run++) {
            run(run);
        }
        Check.end("RandomTest");
    }

    // ---- texts
    private static String pile() {
        StringBuilder b = new StringBuilder();
        int shelf = 20;
        if (!oneIn(5)) {
            shelf = 3 + below(20);
            b.append("shelf ").append(shelf).append(oneIn(3) ? " ;\n" : ";");
        }
        int number = oneIn(6) ? below(10) : 3 + below(7);
        int tall = 1 + below(4);
        int[][] put = new int[number][];
        int n = 0;
        for (int tries = 0; tries < 200 && n < number; tries++) {
            int[] t = place(put, n, shelf, tall);
            if (t[0] >= 0 && t[0] <= 39 && t[1] <= 39 && (oneIn(80) || !collides(put, n, t))) {
                put[n] = t;
                n++;
            }
        }
        shuffle(put, n);
        for (int i = 0; i < n; i++) {
            tell(b, i, put[i]);
        }
        if (!oneIn(4)) {
            b.append("child ").append(wish(0)).append(";");
        }
        return b.toString();
    }

    /** What is told first need not be what stands below. */
    private static void shuffle(int[][] put, int n) {
        boolean fromBelow = oneIn(4);
        for (int i = n - 1; i > 0 && !fromBelow; i--) {
            int other = below(i + 1);
            int[] t = put[i];
            put[i] = put[other];
            put[other] = t;
        }
    }

    private static int[] place(int[][] put, int n, int shelf, int tall) {
        int wide = 1 + below(oneIn(8) ? 12 : 5);
        int high = oneIn(8) ? 1 + below(12) : 1 + below(tall);
        if (n > 0 && !oneIn(3)) {
            int[] under = put[below(n)];
            int left = under[0] - wide + below(wide + under[2] + 1);
            return new int[] {left, under[1] + under[3], wide, high};
        }
        int left = below(shelf + 1) - (oneIn(3) ? wide / 2 : 0);
        return new int[] {left, oneIn(8) ? below(12) : 0, wide, high};
    }

    private static boolean collides(int[][] put, int n, int[] t) {
        for (int i = 0; i < n; i++) {
            int[] u = put[i];
            if (t[0] < u[0] + u[2] && u[0] < t[0] + t[2] && t[1] < u[1] + u[3] && u[1] < t[1] + t[3]) {
                return true;
            }
        }
        return false;
    }

    private static void tell(StringBuilder b, int number, int[] t) {
        b.append("thing ").append("abcdefghi".charAt(number)).append(oneIn(4) ? "x" : "").append(oneIn(9) ? "yzyz" : "");
        for (int i = 0; i < 4; i++) {
            b.append(' ').append(t[i]);
        }
        b.append(' ').append(1 + below(oneIn(3) ? 99 : 9));
        int first = below(4);
        for (int i = 0; i < 4; i++) {
            switch ((first + i) % 4) {
                case 0: b.append(oneIn(4) ? " round" : ""); break;
                case 1: b.append(oneIn(3) ? " rough " + below(11) : ""); break;
                case 2: b.append(oneIn(3) ? " heart " + below(2 * t[2] + 1) : ""); break;
                default: b.append(oneIn(3) ? " doubt " + below(6) : ""); break;
            }
        }
        b.append(oneIn(9) ? " ;\n" : ";");
    }

    private static String wish(int depth) {
        switch (depth > 4 ? below(2) : below(9)) {
            case 0: return String.valueOf(oneIn(4) ? 9999 : below(20));
            case 1: return WORDS[10 + below(7)];
            case 2: return "rough";
            case 3: return "(" + wish(depth + 1) + ")";
            case 4: return "(not " + wish(depth + 1) + ")";
            case 5: return "(" + wish(depth + 1) + (oneIn(2) ? " and " : " or ") + wish(depth + 1) + ")";
            case 6: return "(" + wish(depth + 1) + WORDS[24 + below(6)] + wish(depth + 1) + ")";
            default: return wish(depth + 1) + WORDS[30 + below(4)] + wish(depth + 1);
        }
    }

    /** Words in a row without any sense but that of the grammar's neighbours. */
    private static String babble() {
        StringBuilder b = new StringBuilder("child ");
        for (int i = below(80); i >= 0; i--) {
            b.append(WORDS[oneIn(30) ? below(WORDS.length) : 6 + below(34)]).append(oneIn(2) ? " " : "");
        }
        return b.append(';').toString();
    }

    private static String logic() {
        StringBuilder b = new StringBuilder("child ");
        int open = 0;
        for (int i = below(70); i >= 0; i--) {
            while (oneIn(3)) {
                b.append(oneIn(9) && !Character.isDigit(b.charAt(b.length() - 1)) ? " not " : "(");
                open += b.charAt(b.length() - 1) == '(' ? 1 : 0;
            }
            b.append(oneIn(2) ? String.valueOf(below(10)) : WORDS[10 + below(7)]).append(' ');
            if (open > 0 && oneIn(3)) {
                b.append(')');
                open--;
            }
            b.append(i == 0 ? "" : oneIn(3) ? (oneIn(2) ? " and " : " or ") : WORDS[oneIn(5) ? 24 + below(6) : 30 + below(4)]);
        }
        while (open > 0 && !oneIn(40)) {
            b.append(')');
            open--;
        }
        return b.append(';').toString();
    }

    private static String spoil(String text) {
        StringBuilder b = new StringBuilder(text);
        for (int i = below(3); i >= 0 && b.length() > 0; i--) {
            int at = below(b.length());
            switch (below(4)) {
                case 0: b.setLength(at); break;
                case 1: b.insert(at, WORDS[below(WORDS.length)]); break;
                case 2: b.setCharAt(at, (char) below(128)); break;
                default: b.deleteCharAt(at); break;
            }
        }
        return b.toString();
    }

    private static String text() {
        String text = oneIn(12) ? babble() : oneIn(12) ? logic() : pile();
        if (oneIn(5)) {
            text = spoil(text);
        }
        return text.length() > 600 ? text.substring(0, 600) : text;
    }

    // ---- calls
    private static int calls;
    private static String log;

    private static void due(String call, long got, long want) {
        calls++;
        Check.due(log + call, got, want);
    }

    private static void run(int run) {
        TinTower x = new TinTower();
        Model m = new Model();
        calls = 0;
        log = "run " + run + ": ";
        while (calls < CALLS - 70) {
            String text = text();
            log = "run " + run + " call " + calls + " [" + text + "]: ";
            put(x, m, text);
            int each = 10 + below(100);
            boolean restless = oneIn(10);
            for (int i = 0; i < each && calls < CALLS - 40; i++) {
                if (restless) {
                    finger(x, m);
                } else {
                    call(x, m);
                }
            }
        }
    }

    private static void put(TinTower x, Model m, String text) {
        byte[] b = Check.bytesOf(text);
        for (int i = 0; i < b.length; i += 20) {
            int[] f = new int[5];
            for (int k = 0; k < 5; k++) {
                f[k] = Check.four(b, i + 4 * k);
            }
            due("feed", x.feed(f[0], f[1], f[2], f[3], f[4]), m.feed(f));
        }
        int n = oneIn(30) ? below(700) - 20 : text.length();
        due("text(" + n + ")", x.text(n), m.text(n));
        due("fault(0)", x.fault(0), m.faultOf(0));
        due("fault(1)", x.fault(1), m.faultOf(1));
        if (oneIn(30)) {
            due("text(0)", x.text(0), m.text(0));
        }
    }

    private static int thing() {
        return oneIn(12) ? below(14) - 3 : below(9);
    }

    private static int set(Model m) {
        if (oneIn(40)) {
            return below(2000) - 500;
        }
        int all = (1 << m.count(0)) - 1;
        return oneIn(2) ? all & below(512) : m.there() & (below(512) | below(512));
    }

    private static long look(TinTower x, int thing, int what) {
        try {
            return x.look(thing, what);
        } catch (IndexOutOfBoundsException e) {
            return -101;
        } catch (NoSuchElementException e) {
            return -102;
        }
    }

    private static void call(TinTower x, Model m) {
        int t = thing();
        int u = oneIn(4) ? -1 : thing();
        int what = oneIn(20) ? below(9) - 3 : below(3);
        int set = set(m);
        switch (below(5)) {
            case 0: tell(x, m, t, u, what); break;
            case 1: ask(x, m, t, u, what, set); break;
            case 2: order(x, m, t, what); break;
            case 3: shape(x, m, t, u, what, set); break;
            default:
                if (oneIn(2)) {
                    change(x, m, t);
                }
        }
    }

    private static void tell(TinTower x, Model m, int t, int u, int what) {
        int fact = below(13) - 1;
        switch (below(7)) {
            case 0: due("look(" + t + ", " + fact + ")", look(x, t, fact), m.look(t, fact)); break;
            case 1: due("edge(" + t + ", " + u + ", " + what + ")", x.edge(t, u, what), m.edge(t, u, what)); break;
            case 2: due("above(" + t + ")", x.above(t), m.above(t)); break;
            case 3: due("there()", x.there(), m.there()); break;
            case 4: due("count(" + fact + ")", x.count(fact), m.count(fact)); break;
            case 5: due("fault(" + what + ")", x.fault(what), m.faultOf(what)); break;
            default:
                String name = m.count(0) > 0 && !oneIn(5) ? m.things.get(below(m.count(0))).name : "tin";
                int letters = Check.letters(name);
                due("named(" + letters + ")", x.named(letters), m.named(letters));
        }
    }

    private static void ask(TinTower x, Model m, int t, int u, int what, int set) {
        int held = oneIn(2) ? 0 : set(m);
        int wedged = oneIn(2) ? 0 : set(m);
        switch (below(6)) {
            case 0: due("bears(" + t + ", " + what + ")", x.bears(t, what), m.bears(t, what)); break;
            case 1:
            case 2: due("stands(" + set + ", " + held + ", " + wedged + ")", x.stands(set, held, wedged), m.stands(set, held, wedged)); break;
            case 3: due("falls(" + set + ", " + what + ")", x.falls(set, what), m.falls(set, what)); break;
            case 4: due("most(" + t + ")", x.most(t), m.most(t)); break;
            default:
                int side = oneIn(20) ? 2 : below(2);
                due("push(" + t + ", " + side + ", " + what + ")", x.push(t, side, what), m.push(t, side, what));
        }
    }

    private static void order(TinTower x, Model m, int t, int what) {
        int hands = oneIn(20) ? below(5) - 1 : 1 + below(2);
        int step = oneIn(3) ? what : below(10);
        switch (below(5)) {
            case 0: due("may()", x.may(), m.may()); break;
            case 1:
            case 2: due("down(" + hands + ", " + step + ")", x.down(hands, step), m.down(hands, step)); break;
            case 3: judge(x, m); break;
            default:
                boolean wedges = oneIn(2);
                due("hands(" + t + ", " + wedges + ", " + what + ")", x.hands(t, wedges, what), m.hands(t, wedges, what));
        }
    }

    private static void judge(TinTower x, Model m) {
        int n = oneIn(10) ? below(13) - 2 : m.count(3);
        long order = 0;
        for (int i = 0; i < 9; i++) {
            int next = m.down(1, 0) == 1 && i < m.count(3) && !oneIn(6) ? m.down(1, i + 1) : thing();
            order |= (long) (next & 15) << 4 * i;
        }
        order |= oneIn(5) ? (long) below(1 << 28) << 36 : 0;
        due("judge(" + n + ", " + order + ")", x.judge(n, order), m.judge(n, order));
    }

    private static void shape(TinTower x, Model m, int t, int u, int what, int set) {
        int v = oneIn(3) ? -1 : thing();
        switch (below(oneIn(4) ? 8 : 5)) {
            case 0: due("pulled(" + t + ")", x.pulled(t), m.pulled(t)); break;
            case 1: due("drops(" + t + ", " + u + ")", x.drops(t, u), m.drops(t, u)); break;
            case 2: due("hangs(" + what + ")", x.hangs(what), m.hangs(what)); break;
            case 3: due("wish(" + t + ")", x.wish(t), m.wish(t)); break;
            case 4: due("child()", x.child(), m.child()); break;
            case 5: due("highest(" + set + ", " + what + ")", x.highest(set, what), m.highest(set, what)); break;
            case 6: due("over(" + t + ", " + u + ", -1)", x.over(t, u, -1), m.over(t, u, -1)); break;
            default:
                if (oneIn(6)) {
                    due("over(" + t + ", " + u + ", " + v + ")", x.over(t, u, v), m.over(t, u, v));
                }
        }
    }

    /** Moves one after another, so that more than can be kept could be undone. */
    private static void finger(TinTower x, Model m) {
        int t = below(9);
        int by = oneIn(2) ? 1 : -1;
        due("move(" + t + ", " + by + ")", x.move(t, by), m.move(t, by));
        if (oneIn(20)) {
            int back = below(40);
            for (int i = 0; i < back && calls < CALLS - 40; i++) {
                due("undo()", x.undo(), m.undo());
            }
            due("count(5)", x.count(5), m.count(5));
        }
    }

    private static void change(TinTower x, Model m, int t) {
        int by = oneIn(20) ? below(30) - 15 : below(5) - 2;
        int n = oneIn(10) ? below(14) - 2 : below(3);
        switch (below(9)) {
            case 0: due("take(" + t + ")", x.take(t), m.take(t)); break;
            case 1: due("pull(" + t + ")", x.pull(t), m.pull(t)); break;
            case 2:
            case 3: due("move(" + t + ", " + by + ")", x.move(t, by), m.move(t, by)); break;
            case 4:
            case 5: due("undo()", x.undo(), m.undo()); break;
            case 6: due("spree(" + n + ")", x.spree(n), m.spree(n)); break;
            case 7:
                if (oneIn(2)) {
                    due("keep()", x.keep(), m.keep());
                }
                break;
            default: due("back()", x.back(), m.back()); break;
        }
        due("there()", x.there(), m.there());
        due("count(5)", x.count(5), m.count(5));
    }
}
