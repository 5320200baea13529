import java.math.BigInteger;
import java.util.ArrayList;
import java.util.Arrays;
import java.util.HashMap;
import java.util.List;
import java.util.Map;
import java.util.TreeMap;

/**
 * The document once more, in the slowest and plainest way, to compare the class with: texts are parsed by recursion,
 * values are BigIntegers, orders and piles are tried one by one. It shares no line with the class.
 */
final class Model {
    static final List<String> WORDS = Arrays.asList("shelf", "thing", "round", "rough", "heart", "doubt", "child",
            "or", "and", "not", "weight", "wide", "high", "left", "foot", "above", "load");
    static final int SHELF = -1;

    static final class Thing implements Cloneable {
        String name;
        int left, foot, wide, high, weight, rough = 5, doubt, heart;
        boolean round, there = true;

        Thing copy() {
            try {
                return (Thing) clone();
            } catch (CloneNotSupportedException e) {
                throw new IllegalStateException(e);
            }
        }
    }

    static final class Fault extends Exception {
        final int kind, place;

        Fault(int kind, int place) {
            super("fault");
            this.kind = kind;
            this.place = place;
        }
    }

    static final class Failure extends Exception {
        Failure() {
            super("error");
        }
    }

    interface Knot {
        BigInteger of(int thing) throws Failure;
    }

    static final class Edge {
        final int on, a, b;

        Edge(int on, int a, int b) {
            this.on = on;
            this.a = a;
            this.b = b;
        }
    }

    // ---- what the object holds
    final StringBuilder tape = new StringBuilder();
    List<Thing> things = new ArrayList<>();
    int shelf = 20;
    Knot child = null;
    int knots = 0;
    int fault = 0, faultPlace = -1;
    List<List<Thing>> ahead = new ArrayList<>();
    List<Thing> image = null;

    // ---- texts
    private String text;
    private final List<Integer> starts = new ArrayList<>();
    private final List<String> tokens = new ArrayList<>();
    private int at;
    private List<Thing> newThings;
    private int newShelf, newKnots, open;
    private Knot newChild;

    int feed(int... numbers) {
        if (tape.length() + 20 > 600) {
            return -1;
        }
        for (int number : numbers) {
            for (int i = 3; i >= 0; i--) {
                tape.append((char) (number >>> 8 * i & 255));
            }
        }
        return tape.length();
    }

    int text(int n) {
        if (n < 0 || n > tape.length()) {
            return -2;
        }
        text = tape.substring(0, n);
        tape.setLength(0);
        fault = 0;
        faultPlace = -1;
        try {
            int lines = parse();
            things = newThings;
            shelf = newShelf;
            child = newChild;
            knots = newKnots;
            ahead.clear();
            image = null;
            return lines;
        } catch (Fault f) {
            fault = f.kind;
            faultPlace = f.place;
            return -1;
        }
    }

    private void cut() {
        starts.clear();
        tokens.clear();
        int i = 0;
        while (i < text.length()) {
            if (text.charAt(i) == ' ' || text.charAt(i) == '\n') {
                i++;
                continue;
            }
            java.util.regex.Matcher m = java.util.regex.Pattern.compile("[a-z]+|[0-9]+|<=|<>|>=|[-;()+*/<=>]").matcher(text);
            m.region(i, text.length());
            String token = m.lookingAt() ? m.group() : "?";
            starts.add(i);
            tokens.add(token.matches("[a-z]{7,}") ? "?" : token);
            i += token.length();
        }
        starts.add(text.length());
        tokens.add("end");
    }

    private String token() {
        return at >= tokens.size() - 1 ? "" : tokens.get(at);
    }

    private int place() {
        return starts.get(Math.min(at, starts.size() - 1));
    }

    private void take(String sign) throws Fault {
        if (!token().equals(sign)) {
            throw new Fault(1, place());
        }
        at++;
    }

    private int takeNumber(int least, int most) throws Fault {
        if (!token().matches("[0-9]+")) {
            throw new Fault(1, place());
        }
        BigInteger n = new BigInteger(token());
        if (n.compareTo(BigInteger.valueOf(least)) < 0 || n.compareTo(BigInteger.valueOf(most)) > 0) {
            throw new Fault(2, place());
        }
        at++;
        return n.intValue();
    }

    private int parse() throws Fault {
        cut();
        at = 0;
        newThings = new ArrayList<>();
        newShelf = 20;
        newKnots = 0;
        newChild = null;
        int lines = 0;
        boolean shelfTold = false;
        while (at < tokens.size() - 1) {
            switch (token()) {
                case "shelf":
                    if (shelfTold) {
                        throw new Fault(3, place());
                    }
                    shelfTold = true;
                    at++;
                    newShelf = takeNumber(1, 40);
                    take(";");
                    break;
                case "child":
                    if (newChild != null) {
                        throw new Fault(3, place());
                    }
                    at++;
                    open = 0;
                    newChild = parseOr();
                    take(";");
                    break;
                case "thing":
                    parseThing();
                    break;
                default:
                    throw new Fault(1, place());
            }
            lines++;
        }
        return lines;
    }

    private void parseThing() throws Fault {
        if (newThings.size() == 9) {
            throw new Fault(2, place());
        }
        at++;
        Thing t = new Thing();
        int namePlace = place();
        if (!token().matches("[a-z]{1,6}") || WORDS.contains(token())) {
            throw new Fault(1, place());
        }
        t.name = token();
        for (Thing u : newThings) {
            if (u.name.equals(t.name)) {
                throw new Fault(3, place());
            }
        }
        at++;
        t.left = takeNumber(0, 39);
        t.foot = takeNumber(0, 39);
        t.wide = takeNumber(1, 12);
        t.high = takeNumber(1, 12);
        t.weight = takeNumber(1, 99);
        t.heart = t.wide;
        List<String> told = new ArrayList<>();
        while (Arrays.asList("round", "rough", "heart", "doubt").contains(token())) {
            String word = token();
            if (told.contains(word)) {
                throw new Fault(3, place());
            }
            told.add(word);
            at++;
            if (word.equals("round")) {
                t.round = true;
            } else if (word.equals("rough")) {
                t.rough = takeNumber(0, 10);
            } else if (word.equals("heart")) {
                t.heart = takeNumber(0, 2 * t.wide);
            } else {
                t.doubt = takeNumber(0, 5);
            }
        }
        take(";");
        for (Thing u : newThings) {
            if (overlap(t, u)) {
                throw new Fault(4, namePlace);
            }
        }
        newThings.add(t);
    }

    private void knot() throws Fault {
        if (newKnots == 64) {
            throw new Fault(2, place());
        }
        newKnots++;
    }

    private static BigInteger bit(boolean b) {
        return b ? BigInteger.ONE : BigInteger.ZERO;
    }

    private Knot parseOr() throws Fault {
        Knot one = parseAnd();
        while (token().equals("or")) {
            knot();
            at++;
            Knot a = one, b = parseAnd();
            one = t -> {
                BigInteger x = a.of(t), y = b.of(t);
                return bit(x.signum() != 0 || y.signum() != 0);
            };
        }
        return one;
    }

    private Knot parseAnd() throws Fault {
        Knot one = parseNot();
        while (token().equals("and")) {
            knot();
            at++;
            Knot a = one, b = parseNot();
            one = t -> {
                BigInteger x = a.of(t), y = b.of(t);
                return bit(x.signum() != 0 && y.signum() != 0);
            };
        }
        return one;
    }

    private Knot parseNot() throws Fault {
        if (token().equals("not")) {
            knot();
            at++;
            Knot a = parseNot();
            return t -> bit(a.of(t).signum() == 0);
        }
        Knot a = parseSum();
        String sign = token();
        if (!Arrays.asList("<", "<=", "=", "<>", ">=", ">").contains(sign)) {
            return a;
        }
        knot();
        at++;
        Knot b = parseSum();
        return t -> {
            int c = a.of(t).compareTo(b.of(t));
            switch (sign) {
                case "<": return bit(c < 0);
                case "<=": return bit(c <= 0);
                case "=": return bit(c == 0);
                case "<>": return bit(c != 0);
                case ">=": return bit(c >= 0);
                default: return bit(c > 0);
            }
        };
    }

    private static BigInteger valid(BigInteger v) throws Failure {
        if (v.abs().compareTo(BigInteger.TEN.pow(12)) > 0) {
            throw new Failure();
        }
        return v;
    }

    private Knot parseSum() throws Fault {
        Knot one = parseProduct();
        while (token().equals("+") || token().equals("-")) {
            boolean plus = token().equals("+");
            knot();
            at++;
            Knot a = one, b = parseProduct();
            one = t -> valid(plus ? a.of(t).add(b.of(t)) : a.of(t).subtract(b.of(t)));
        }
        return one;
    }

    private Knot parseProduct() throws Fault {
        Knot one = parseLeaf();
        while (token().equals("*") || token().equals("/")) {
            boolean times = token().equals("*");
            knot();
            at++;
            Knot a = one, b = parseLeaf();
            one = t -> {
                BigInteger x = a.of(t), y = b.of(t);
                if (times) {
                    return valid(x.multiply(y));
                }
                if (y.signum() == 0) {
                    throw new Failure();
                }
                return x.divide(y);
            };
        }
        return one;
    }

    private Knot parseLeaf() throws Fault {
        String token = token();
        if (token.equals("(")) {
            if (open == 8) {
                throw new Fault(2, place());
            }
            open++;
            at++;
            Knot inside = parseOr();
            take(")");
            open--;
            return inside;
        }
        if (token.matches("[0-9]+")) {
            if (new BigInteger(token).compareTo(BigInteger.valueOf(9999)) > 0) {
                throw new Fault(2, place());
            }
            knot();
            at++;
            BigInteger n = new BigInteger(token);
            return t -> n;
        }
        if (Arrays.asList("weight", "wide", "high", "left", "foot", "above", "load", "rough").contains(token)) {
            knot();
            at++;
            return t -> BigInteger.valueOf(fact(token, t));
        }
        throw new Fault(1, place());
    }

    private long fact(String name, int thing) {
        Thing t = things.get(thing);
        switch (name) {
            case "weight": return t.weight;
            case "wide": return t.wide;
            case "high": return t.high;
            case "left": return t.left;
            case "foot": return t.foot;
            case "above": return Integer.bitCount(above(thing));
            case "load": return bears(thing, 0) / 27720;
            default: return t.rough;
        }
    }

    // ---- places
    static boolean apart(int from, int to, int otherFrom, int otherTo) {
        return to <= otherFrom || otherTo <= from;
    }

    static boolean overlapAlong(Thing t, Thing u) {
        return !apart(t.left, t.left + t.wide, u.left, u.left + u.wide);
    }

    static boolean overlap(Thing t, Thing u) {
        return overlapAlong(t, u) && !apart(t.foot, t.foot + t.high, u.foot, u.foot + u.high);
    }

    /** The edge of a thing on one with an extent in halves, or null. */
    static Edge common(int on, Thing t, int from, int to, boolean otherRound) {
        int middle = 2 * t.left + t.wide;
        int otherMiddle = (from + to) / 2;
        if (t.round && otherRound) {
            return middle == otherMiddle ? new Edge(on, middle, middle) : null;
        }
        if (t.round) {
            return from <= middle && middle <= to ? new Edge(on, middle, middle) : null;
        }
        if (otherRound) {
            return 2 * t.left <= otherMiddle && otherMiddle <= 2 * (t.left + t.wide)
                    ? new Edge(on, otherMiddle, otherMiddle) : null;
        }
        int a = Math.max(from, 2 * t.left);
        int b = Math.min(to, 2 * (t.left + t.wide));
        return a < b ? new Edge(on, a, b) : null;
    }

    Edge edgeOf(List<Thing> l, int thing, int on) {
        Thing t = l.get(thing);
        if (on == SHELF) {
            return t.foot == 0 ? common(SHELF, t, 0, 2 * shelf, false) : null;
        }
        Thing u = l.get(on);
        if (on == thing || t.foot != u.foot + u.high) {
            return null;
        }
        return common(on, t, 2 * u.left, 2 * (u.left + u.wide), u.round);
    }

    List<Edge> edgesOf(List<Thing> l, int set, int thing) {
        TreeMap<Integer, Edge> sorted = new TreeMap<>();
        for (int on = SHELF; on < l.size(); on++) {
            Edge e = on == SHELF || has(set, on) ? edgeOf(l, thing, on) : null;
            if (e != null) {
                sorted.put(e.a * 100 + on + 1, e);
            }
        }
        return new ArrayList<>(sorted.values());
    }

    static boolean has(int set, int thing) {
        return (set >> thing & 1) == 1;
    }

    // ---- bearing
    long[] loads = new long[9], moments = new long[9];
    int[] fates = new int[9];

    /** Those of a set that fall. */
    int bear(List<Thing> l, int set, int held, int wedged, int heavier, int more) {
        Arrays.fill(fates, 0);
        for (int t = 0; t < l.size(); t++) {
            loads[t] = (l.get(t).weight + (t == heavier ? more : 0)) * 27720L;
            moments[t] = loads[t] * (2 * l.get(t).left + l.get(t).heart);
        }
        int fallen = 0;
        for (int foot = 200; foot >= 0; foot--) {
            for (int t = 0; t < l.size(); t++) {
                if (l.get(t).foot == foot && has(set, t) && !has(held, t)) {
                    fates[t] = bearOne(edgesOf(l, set, t), loads[t], moments[t], has(wedged, t));
                    if (fates[t] != 0) {
                        fallen |= 1 << t;
                    }
                }
            }
        }
        return fallen;
    }

    private int bearOne(List<Edge> edges, long load, long moment, boolean wedged) {
        if (edges.isEmpty()) {
            return 2;
        }
        for (Edge e : edges) {
            if (load * e.a <= moment && moment <= load * e.b) {
                goes(e, load, moment);
                return 0;
            }
        }
        for (int i = 0; i + 1 < edges.size(); i++) {
            Edge one = edges.get(i), next = edges.get(i + 1);
            if (load * one.b < moment && moment < load * next.a) {
                long part = (moment - load * one.b) / (next.a - one.b);
                goes(next, part, part * next.a);
                goes(one, load - part, (load - part) * one.b);
                return 0;
            }
        }
        if (!wedged) {
            return 1;
        }
        Edge first = edges.get(0), last = edges.get(edges.size() - 1);
        if (moment < load * first.a) {
            goes(first, load, load * first.a);
        } else {
            for (Edge e : edges) {
                last = e.b > last.b ? e : last;
            }
            goes(last, load, load * last.b);
        }
        return 0;
    }

    private void goes(Edge e, long load, long moment) {
        if (e.on != SHELF) {
            loads[e.on] += load;
            moments[e.on] += moment;
        }
    }

    int there() {
        return there(things);
    }

    static int there(List<Thing> l) {
        int set = 0;
        for (int t = 0; t < l.size(); t++) {
            set |= l.get(t).there ? 1 << t : 0;
        }
        return set;
    }

    private boolean isThere(int t) {
        return t >= 0 && t < things.size() && things.get(t).there;
    }

    private boolean strange(int set) {
        return set < 0 || set >= 1 << things.size();
    }

    boolean calm(int set, int held, int wedged) {
        return bear(things, set, held, wedged, -1, 0) == 0;
    }

    List<Integer> rounds(List<Thing> l, int set) {
        List<Integer> rounds = new ArrayList<>();
        int left = set;
        for (;;) {
            int fallen = bear(l, left, 0, 0, -1, 0);
            if (fallen == 0) {
                return rounds;
            }
            rounds.add(fallen);
            left &= ~fallen;
        }
    }

    int fallen(List<Thing> l, int set) {
        int all = 0;
        for (int round : rounds(l, set)) {
            all |= round;
        }
        return all;
    }

    // ---- the face
    int named(int letters) {
        for (int t = 0; t < things.size(); t++) {
            if (Check.letters(things.get(t).name) == letters) {
                return t;
            }
        }
        return -1;
    }

    /** -101 and -102 for the two exceptions. */
    int look(int thing, int what) {
        if (thing < 0 || thing >= things.size()) {
            return -101;
        }
        Thing t = things.get(thing);
        int[] facts = {t.left, t.foot, t.wide, t.high, t.weight, t.round ? 1 : 0, t.rough, t.doubt, 2 * t.left + t.heart,
            t.there ? 1 : 0};
        return what < 0 || what >= facts.length ? -102 : facts[what];
    }

    int edge(int thing, int on, int what) {
        if (!isThere(thing) || thing == on || on != SHELF && !isThere(on) || what < 0 || what > 1) {
            return -1;
        }
        Edge e = edgeOf(things, thing, on);
        return e == null ? -2 : what == 0 ? e.a : e.b;
    }

    int above(int thing) {
        if (!isThere(thing)) {
            return -1;
        }
        int set = 0;
        for (int t = 0; t < things.size(); t++) {
            set |= isThere(t) && edgeOf(things, t, thing) != null ? 1 << t : 0;
        }
        return set;
    }

    long bears(int thing, int what) {
        if (!isThere(thing)) {
            return -1;
        }
        bear(things, there(), 0, 0, -1, 0);
        return what == 0 ? loads[thing] : what == 1 ? moments[thing] : what == 2 ? fates[thing] : -2;
    }

    int stands(int set, int held, int wedged) {
        if (strange(set) || strange(held) || strange(wedged)) {
            return -1;
        }
        return calm(set, held, wedged) ? 1 : 0;
    }

    int falls(int set, int what) {
        if (strange(set) || what < 0) {
            return -1;
        }
        List<Integer> rounds = rounds(things, set);
        if (what == 0) {
            return fallen(things, set);
        }
        return what == 1 ? rounds.size() : what - 2 < rounds.size() ? rounds.get(what - 2) : 0;
    }

    int may() {
        int set = 0;
        for (int t = 0; t < things.size(); t++) {
            set |= isThere(t) && calm(there() & ~(1 << t), 0, 0) ? 1 << t : 0;
        }
        return set;
    }

    int down(int hands, int what) {
        if (hands != 1 && hands != 2 || what < 0 || what > Integer.bitCount(there())) {
            return -1;
        }
        String order = bestOrder(hands, there(), -2, new HashMap<>());
        if (what == 0) {
            return order == null ? 0 : 1;
        }
        return order == null ? -1 : order.charAt(what - 1) - '0';
    }

    /** The first order from a set on; held: -1 nothing, -2 what one likes. */
    private String bestOrder(int hands, int set, int held, Map<Integer, String> memo) {
        if (set == 0) {
            return "";
        }
        int key = set * 16 + held + 2;
        if (memo.containsKey(key)) {
            return memo.get(key);
        }
        String best = null;
        if (held == -2) {
            for (int h = -1; h < (hands == 2 ? things.size() : 0); h++) {
                if (h < 0 || has(set, h)) {
                    best = first(best, bestOrder(hands, set, h, memo));
                }
            }
        } else {
            for (int t = 0; t < things.size(); t++) {
                if (has(set, t)) {
                    int rest = set & ~(1 << t);
                    int then = held == t ? -1 : held;
                    if (calm(rest, then < 0 ? 0 : 1 << then, 0)) {
                        String behind = bestOrder(hands, rest, calm(rest, 0, 0) ? -2 : then, memo);
                        best = first(best, behind == null ? null : t + behind);
                    }
                }
            }
        }
        memo.put(key, best);
        return best;
    }

    private static String first(String a, String b) {
        return a == null ? b : b == null || a.compareTo(b) <= 0 ? a : b;
    }

    int judge(int n, long order) {
        if (n < 0 || n > 9) {
            return -1;
        }
        int set = there();
        for (int i = 0; i < n; i++) {
            int t = (int) (order >>> 4 * i & 15);
            if (t >= things.size() || !has(set, t) || !calm(set - (1 << t), 0, 0)) {
                return i;
            }
            set -= 1 << t;
        }
        return n;
    }

    int most(int thing) {
        if (!isThere(thing) || !calm(there(), 0, 0)) {
            return -1;
        }
        int w = 0;
        while (w < 200 && bear(things, there(), 0, 0, thing, w + 1) == 0) {
            w++;
        }
        return w;
    }

    int push(int thing, int side, int kind) {
        if (!isThere(thing) || side < 0 || side > 1 || kind < 0 || kind > 2 || !calm(there(), 0, 0)) {
            return -1;
        }
        Thing t = things.get(thing);
        if (t.round) {
            return 0;
        }
        int rough = kind == 0 ? t.rough : kind == 1 ? Math.max(0, t.rough - t.doubt) : t.rough + t.doubt;
        int far = side == 0 ? Integer.MIN_VALUE : Integer.MAX_VALUE;
        for (Edge e : edgesOf(things, there(), thing)) {
            far = side == 0 ? Math.max(far, e.b) : Math.min(far, e.a);
        }
        long load = bears(thing, 0), moment = bears(thing, 1);
        long lean = side == 0 ? load * far - moment : moment - load * far;
        int push = 0;
        while (10L * 27720 * (push + 1) <= rough * load && 27720L * (push + 1) * 2 * t.high <= lean) {
            push++;
        }
        return push;
    }

    int hands(int thing, boolean wedges, int what) {
        if (!isThere(thing) || what < 0 || what > 1) {
            return -1;
        }
        int rest = there() - (1 << thing);
        for (int size = 0; size <= 9; size++) {
            for (int set = 0; set < 512; set++) {
                if (Integer.bitCount(set) == size && (set | rest) == rest
                        && calm(rest, wedges ? 0 : set, wedges ? set : 0)) {
                    return what == 0 ? size : set;
                }
            }
        }
        return -2;
    }

    static List<Thing> copy(List<Thing> l) {
        List<Thing> c = new ArrayList<>();
        for (Thing t : l) {
            c.add(t.copy());
        }
        return c;
    }

    /** All behind the drops, ahead of the falls. */
    private List<Thing> pullOut(int thing) {
        List<Thing> l = copy(things);
        l.get(thing).there = false;
        for (;;) {
            int best = -1, bestLanding = 0;
            for (int t = 0; t < l.size(); t++) {
                Thing x = l.get(t);
                if (!x.there || !edgesOf(l, there(l), t).isEmpty()) {
                    continue;
                }
                int landing = x.left < shelf ? 0 : -1;
                for (int u = 0; u < l.size(); u++) {
                    Thing y = l.get(u);
                    if (u != t && y.there && overlapAlong(x, y) && y.foot + y.high <= x.foot) {
                        landing = Math.max(landing, y.foot + y.high);
                    }
                }
                if (landing != x.foot && (best < 0 || x.foot < l.get(best).foot)) {
                    best = t;
                    bestLanding = landing;
                }
            }
            if (best < 0) {
                return l;
            }
            if (bestLanding < 0) {
                l.get(best).there = false;
            } else {
                l.get(best).foot = bestLanding;
            }
        }
    }

    private void drop(List<Thing> l, int fallen) {
        for (int t = 0; t < l.size(); t++) {
            if (has(fallen, t)) {
                l.get(t).there = false;
            }
        }
    }

    int pulled(int thing) {
        if (!isThere(thing)) {
            return -1;
        }
        List<Thing> l = pullOut(thing);
        return there(l) & ~fallen(l, there(l));
    }

    int drops(int thing, int other) {
        if (!isThere(thing) || !isThere(other) || thing == other) {
            return -1;
        }
        Thing t = pullOut(thing).get(other);
        return t.there ? t.foot : -2;
    }

    int hangs(int what) {
        if (there() == 0 || what < 0 || what > 1) {
            return -1;
        }
        int best = -1, most = -1;
        for (int t = 0; t < things.size(); t++) {
            if (isThere(t)) {
                int n = Integer.bitCount(fallen(things, there() - (1 << t)));
                if (n > most) {
                    most = n;
                    best = t;
                }
            }
        }
        return what == 0 ? best : most;
    }

    private int bestHigh, bestSet;

    int highest(int set, int what) {
        if (strange(set) || what < 0 || what > 1) {
            return -1;
        }
        bestHigh = 0;
        bestSet = 0;
        pileOn(set, 0, 0, 99);
        return what == 0 ? bestHigh : bestSet;
    }

    private void pileOn(int set, int used, int high, int width) {
        int more = Integer.bitCount(used) - Integer.bitCount(bestSet);
        if (high > bestHigh || high == bestHigh && (more < 0 || more == 0 && used < bestSet)) {
            bestHigh = high;
            bestSet = used;
        }
        for (int t = 0; t < things.size(); t++) {
            if (has(set, t) && !has(used, t)) {
                Thing x = things.get(t);
                for (int turn = 0; turn < 2; turn++) {
                    int wide = turn == 0 ? x.wide : x.high;
                    if (wide < width) {
                        pileOn(x.round ? 0 : set, used | 1 << t, high + x.wide + x.high - wide, wide);
                    }
                }
            }
        }
    }

    int over(int first, int second, int third) {
        int n = things.size();
        if (first < 0 || first >= n || second < 0 || second >= n || third < -1 || third >= n
                || first == second || first == third || second == third) {
            return -1;
        }
        List<Thing> pile = new ArrayList<>();
        for (int t : third < 0 ? new int[] {first, second} : new int[] {first, second, third}) {
            pile.add(things.get(t).copy());
        }
        int foot = 0;
        for (Thing t : pile) {
            t.foot = foot;
            foot += t.high;
        }
        return farthest(pile, 0);
    }

    private int farthest(List<Thing> pile, int storey) {
        if (storey == pile.size()) {
            return reach(pile);
        }
        int best = -1;
        int around = storey == 0 ? 0 : pile.get(storey - 1).left;
        for (int left = around - 13; left <= around + 13; left++) {
            pile.get(storey).left = left;
            boolean on = storey == 0 ? onFarShelf(pile.get(0)) != null : edgeOf(pile, storey, storey - 1) != null;
            if (on) {
                best = Math.max(best, farthest(pile, storey + 1));
            }
        }
        return best;
    }

    private static Edge onFarShelf(Thing t) {
        return common(SHELF, t, -10000, 0, false);
    }

    private int reach(List<Thing> pile) {
        long load = 0, moment = 0;
        int reach = Integer.MIN_VALUE;
        for (int i = pile.size() - 1; i >= 0; i--) {
            Thing t = pile.get(i);
            load += t.weight;
            moment += t.weight * (2L * t.left + t.heart);
            Edge e = i == 0 ? onFarShelf(t) : edgeOf(pile, i, i - 1);
            if (moment < load * e.a || moment > load * e.b) {
                return -1;
            }
            reach = Math.max(reach, t.left + t.wide);
        }
        return reach;
    }

    long wish(int thing) {
        if (!isThere(thing) || child == null) {
            return Long.MIN_VALUE;
        }
        try {
            return child.of(thing).longValue();
        } catch (Failure f) {
            return Long.MIN_VALUE;
        }
    }

    int child() {
        int best = -1;
        long most = 0;
        for (int t = 0; t < things.size(); t++) {
            if (isThere(t)) {
                long value = wish(t) == Long.MIN_VALUE ? 0 : wish(t);
                if (best < 0 || value > most) {
                    best = t;
                    most = value;
                }
            }
        }
        return best;
    }

    private void ahead() {
        ahead.add(copy(things));
        if (ahead.size() > 30) {
            ahead.remove(0);
        }
    }

    private int fall() {
        drop(things, fallen(things, there()));
        return there();
    }

    int spree(int n) {
        if (n < 0 || n > 9) {
            return -1;
        }
        List<Thing> before = copy(things);
        int took = 0;
        while (took < n && there() != 0) {
            things.get(child()).there = false;
            fall();
            took++;
        }
        if (took > 0) {
            List<Thing> behind = things;
            things = before;
            ahead();
            things = behind;
        }
        return took;
    }

    int take(int thing) {
        if (!isThere(thing)) {
            return -1;
        }
        ahead();
        things.get(thing).there = false;
        return fall();
    }

    int pull(int thing) {
        if (!isThere(thing)) {
            return -1;
        }
        ahead();
        things = pullOut(thing);
        return fall();
    }

    int move(int thing, int by) {
        if (!isThere(thing) || by == 0 || by < -9 || by > 9) {
            return -1;
        }
        Thing t = things.get(thing).copy();
        t.left += by;
        if (t.left < 0 || t.left > 39) {
            return -1;
        }
        for (int u = 0; u < things.size(); u++) {
            if (u != thing && isThere(u) && overlap(t, things.get(u))) {
                return -1;
            }
        }
        ahead();
        things.set(thing, t);
        return fall();
    }

    int undo() {
        if (ahead.isEmpty()) {
            return -1;
        }
        things = ahead.remove(ahead.size() - 1);
        return ahead.size();
    }

    int keep() {
        image = copy(things);
        return there();
    }

    int back() {
        if (image == null) {
            return -1;
        }
        things = copy(image);
        ahead.clear();
        return there();
    }

    int count(int what) {
        int weight = 0, top = 0;
        for (Thing t : things) {
            weight += t.there ? t.weight : 0;
            top = Math.max(top, t.there ? t.foot + t.high : 0);
        }
        int[] counts = {things.size(), shelf, knots, Integer.bitCount(there()), weight, ahead.size(), top};
        return what < 0 || what >= counts.length ? -1 : counts[what];
    }

    int faultOf(int what) {
        return what == 0 ? fault : what == 1 ? faultPlace : -1;
    }
}
