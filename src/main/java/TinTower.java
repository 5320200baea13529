import java.util.NoSuchElementException;

public final class TinTower {
    public static final int NONE = -1;

    private static final int MOST_THINGS = 9;
    private static final int SETS = 1 << MOST_THINGS;
    private static final int NO_SUCH_WAY = -2;
    private static final long UNIT = 27720;

    private static final int TAPE_LENGTH = 600;
    private static final int FED_AT_ONCE = 20;
    private static final int MOST_PLACE = 39;
    private static final int MOST_BY = 9;
    private static final int MOST_MORE = 200;

    private final byte[] tape;
    private int taped;
    /** Where the next TEXT is read into, so that one with a FAULT changes nothing. */
    private Told spare;
    private final Reader reader;
    private final Pile now;
    private final Pile trial;
    private final Orders orders;
    private final Shapes shapes;
    private final History history;
    private final Scene image;
    private boolean imaged;

    public TinTower() {
        tape = new byte[TAPE_LENGTH];
        taped = 0;
        spare = new Told();
        reader = new Reader();
        now = new Pile(new Told());
        trial = new Pile(now.told);
        orders = new Orders();
        shapes = new Shapes();
        history = new History();
        image = new Scene();
        imaged = false;
    }

    public int feed(int a, int b, int c, int d, int e) {
        if (taped > TAPE_LENGTH - FED_AT_ONCE) {
            return NONE;
        }
        putFour(a);
        putFour(b);
        putFour(c);
        putFour(d);
        putFour(e);
        return taped;
    }

    private void putFour(int four) {
        for (int shift = 24; shift >= 0; shift -= 8) {
            if (taped < TAPE_LENGTH) {
                tape[taped] = (byte) (four >> shift);
                taped++;
            }
        }
    }

    public int text(int n) {
        if (n < 0 || n > taped) {
            return NO_SUCH_WAY;
        }
        taped = 0;
        if (!reader.read(tape, n, spare)) {
            return NONE;
        }
        Told before = now.told;
        now.begin(spare);
        spare = before;
        orders.forget();
        history.clear();
        imaged = false;
        return reader.lines;
    }

    public int fault(int what) {
        if (what == 0) {
            return reader.fault;
        }
        return what == 1 ? reader.place : NONE;
    }

    public int named(int letters) {
        return now.told.find(letters);
    }

    private boolean isTold(int thing) {
        return thing >= 0 && thing < now.told.number;
    }

    private boolean isThere(int thing) {
        return isTold(thing) && now.scene.has(thing);
    }

    /** Whether a set has bits of no THINGS. */
    private boolean isStrange(int set) {
        return (set & ~now.told.everything()) != 0;
    }

    public int look(int thing, int what) throws IndexOutOfBoundsException, NoSuchElementException {
        if (!isTold(thing)) {
            throw new IndexOutOfBoundsException("no such thing");
        }
        switch (what) {
            case 0: return now.scene.left[thing];
            case 1: return now.scene.foot[thing];
            case 2: return now.told.wide[thing];
            case 3: return now.told.high[thing];
            case 4: return now.told.weight[thing];
            case 5: return now.told.isRound(thing) ? 1 : 0;
            case 6: return now.told.rough[thing];
            case 7: return now.told.doubt[thing];
            case 8: return now.heartPlace(thing);
            case 9: return now.scene.has(thing) ? 1 : 0;
            default: throw new NoSuchElementException("no such what");
        }
    }

    public int edge(int thing, int on, int what) {
        if (!isThere(thing) || thing == on || what < 0 || what > 1) {
            return NONE;
        }
        if (on != NONE && !isThere(on)) {
            return NONE;
        }
        int found = now.edges.find(thing, on == NONE ? Edges.SHELF : on);
        if (found < 0) {
            return NO_SUCH_WAY;
        }
        return what == 0 ? now.edges.from[found] : now.edges.to[found];
    }

    public int above(int thing) {
        return isThere(thing) ? now.whoStandsOn(thing) : NONE;
    }

    public int there() {
        return now.scene.there;
    }

    public long bears(int thing, int what) {
        if (!isThere(thing)) {
            return NONE;
        }
        now.weigh(now.scene.there, 0, 0);
        switch (what) {
            case 0: return now.load[thing];
            case 1: return now.moment[thing];
            case 2: return now.fate[thing];
            default: return NO_SUCH_WAY;
        }
    }

    public int stands(int set, int held, int wedged) {
        if (isStrange(set) || isStrange(held) || isStrange(wedged)) {
            return NONE;
        }
        return now.weigh(set, held, wedged) == 0 ? 1 : 0;
    }

    public int falls(int set, int what) {
        if (isStrange(set) || what < 0) {
            return NONE;
        }
        int left = now.collapse(set);
        if (what == 0) {
            return set & ~left;
        }
        if (what == 1) {
            return now.rounds;
        }
        return what - 2 < now.rounds ? now.gone[what - 2] : 0;
    }

    public int may() {
        int set = now.scene.there;
        int found = 0;
        for (int t = 0; t < now.told.number; t++) {
            int one = 1 << t;
            if ((set & one) != 0 && now.weigh(set & ~one, 0, 0) == 0) {
                found |= one;
            }
        }
        return found;
    }

    public int down(int hands, int what) {
        if (hands < 1 || hands > 2 || what < 0 || what > Integer.bitCount(now.scene.there)) {
            return NONE;
        }
        if (!orders.hasAnswered(hands)) {
            orders.search(now, hands);
        }
        if (what == 0) {
            return orders.isPossible(hands) ? 1 : 0;
        }
        return orders.isPossible(hands) ? orders.taken(hands, what - 1) : NONE;
    }

    public int judge(int n, long order) {
        if (n < 0 || n > MOST_THINGS) {
            return NONE;
        }
        int set = now.scene.there;
        for (int i = 0; i < n; i++) {
            int one = 1 << (int) (order >> 4 * i & 15);
            if ((set & one) == 0) {
                return i;
            }
            set &= ~one;
            if (now.weigh(set, 0, 0) != 0) {
                return i;
            }
        }
        return n;
    }

    public int most(int thing) {
        if (!isThere(thing) || !now.standsAsItIs()) {
            return NONE;
        }
        int borne = 0;
        boolean holds = true;
        for (int more = 1; more <= MOST_MORE && holds; more++) {
            holds = now.standsWithMore(thing, more);
            if (holds) {
                borne = more;
            }
        }
        return borne;
    }

    public int push(int thing, int side, int kind) {
        if (!isThere(thing) || side < 0 || side > 1 || kind < 0 || kind > 2) {
            return NONE;
        }
        return now.standsAsItIs() ? now.greatestPush(thing, side, kind) : NONE;
    }

    public int hands(int thing, boolean wedges, int what) {
        if (!isThere(thing) || what < 0 || what > 1) {
            return NONE;
        }
        int rest = now.scene.there & ~(1 << thing);
        int best = NONE;
        for (int help = 0; help <= rest; help++) {
            boolean fewer = best < 0 || Integer.bitCount(help) < Integer.bitCount(best);
            if (fewer && (help & ~rest) == 0
                    && now.weigh(rest, wedges ? 0 : help, wedges ? help : 0) == 0) {
                best = help;
            }
        }
        if (best < 0) {
            return NO_SUCH_WAY;
        }
        return what == 0 ? Integer.bitCount(best) : best;
    }

    public int pulled(int thing) {
        if (!isThere(thing)) {
            return NONE;
        }
        pullOnTrial(thing);
        return trial.scene.there;
    }

    private void pullOnTrial(int thing) {
        trial.follow(now);
        trial.pullOut(thing);
        trial.scene.there = trial.collapse(trial.scene.there);
    }

    public int drops(int thing, int other) {
        if (!isThere(thing) || !isThere(other) || thing == other) {
            return NONE;
        }
        trial.follow(now);
        trial.pullOut(thing);
        return trial.scene.has(other) ? trial.scene.foot[other] : NO_SUCH_WAY;
    }

    public int hangs(int what) {
        int set = now.scene.there;
        if (set == 0 || what < 0 || what > 1) {
            return NONE;
        }
        int best = NONE;
        int most = -1;
        for (int t = 0; t < now.told.number; t++) {
            if (now.scene.has(t)) {
                int rest = set & ~(1 << t);
                int fallen = Integer.bitCount(rest & ~now.collapse(rest));
                if (fallen > most) {
                    most = fallen;
                    best = t;
                }
            }
        }
        return what == 0 ? best : most;
    }

    public int highest(int set, int what) {
        if (isStrange(set) || what < 0 || what > 1) {
            return NONE;
        }
        shapes.pileUp(now.told, set);
        return what == 0 ? shapes.bestHigh : shapes.bestSet;
    }

    public int over(int first, int second, int third) {
        boolean alike = first == second || first == third || second == third;
        if (alike || !isTold(first) || !isTold(second) || third != NONE && !isTold(third)) {
            return NONE;
        }
        return shapes.reach(now.told, first, second, third);
    }

    public int child() {
        return now.childsChoice();
    }

    public long wish(int thing) {
        if (!isThere(thing) || !now.told.wish.isTold()) {
            return Long.MIN_VALUE;
        }
        now.weigh(now.scene.there, 0, 0);
        return now.wishFor(thing);
    }

    public int spree(int n) {
        if (n < 0 || n > 9) {
            return NONE;
        }
        if (n > 0 && now.scene.there != 0) {
            history.remember(now.scene);
        }
        int took = 0;
        for (int i = 0; i < n && now.scene.there != 0; i++) {
            removeAndFall(now.childsChoice());
            took++;
        }
        return took;
    }

    private void removeAndFall(int thing) {
        now.scene.remove(thing);
        now.scene.there = now.collapse(now.scene.there);
        orders.forget();
    }

    public int take(int thing) {
        if (!isThere(thing)) {
            return NONE;
        }
        history.remember(now.scene);
        removeAndFall(thing);
        return now.scene.there;
    }

    public int pull(int thing) {
        if (!isThere(thing)) {
            return NONE;
        }
        history.remember(now.scene);
        pullOnTrial(thing);
        return show(trial.scene);
    }

    private int show(Scene scene) {
        now.scene.copy(scene);
        now.findEdges();
        orders.forget();
        return now.scene.there;
    }

    public int move(int thing, int by) {
        if (!isThere(thing) || by == 0 || by < -MOST_BY || by > MOST_BY) {
            return NONE;
        }
        int left = now.scene.left[thing] + by;
        if (left < 0 || left > MOST_PLACE || now.isTakenUp(thing, left)) {
            return NONE;
        }
        history.remember(now.scene);
        now.scene.left[thing] = left;
        now.findEdges();
        now.scene.there = now.collapse(now.scene.there);
        orders.forget();
        return now.scene.there;
    }

    public int undo() {
        if (history.kept == 0) {
            return NONE;
        }
        history.recall(now.scene);
        now.findEdges();
        orders.forget();
        return history.kept;
    }

    public int keep() {
        image.copy(now.scene);
        imaged = true;
        return now.scene.there;
    }

    public int back() {
        if (!imaged) {
            return NONE;
        }
        history.clear();
        return show(image);
    }

    public int count(int what) {
        switch (what) {
            case 0: return now.told.number;
            case 1: return now.told.shelf;
            case 2: return now.told.wish.length;
            case 3: return Integer.bitCount(now.scene.there);
            case 4: return now.weightThere();
            case 5: return history.kept;
            case 6: return now.highestTop();
            default: return NONE;
        }
    }

    /** Cuts a TEXT into TOKENS. */
    private static final class Scanner {
        static final int END = 0;
        static final int WORD = 1;
        static final int NUMBER = 2;
        static final int SIGN = 3;
        static final int WRONG = 4;

        static final int MOST_LETTERS = 6;
        /** More than any number may be: beyond it the digits make no difference. */
        static final int MUCH = 100000;

        static final int LESS_OR_SAME = '<' << 8 | '=';
        static final int UNLIKE = '<' << 8 | '>';
        static final int MORE_OR_SAME = '>' << 8 | '=';

        // Words as named() tells letters: five bits each, the first one highest of six.
        static final int SHELF = ('s' & 31) << 25 | ('h' & 31) << 20 | ('e' & 31) << 15 | ('l' & 31) << 10 | ('f' & 31) << 5;
        static final int THING = ('t' & 31) << 25 | ('h' & 31) << 20 | ('i' & 31) << 15 | ('n' & 31) << 10 | ('g' & 31) << 5;
        static final int ROUND = ('r' & 31) << 25 | ('o' & 31) << 20 | ('u' & 31) << 15 | ('n' & 31) << 10 | ('d' & 31) << 5;
        static final int ROUGH = ('r' & 31) << 25 | ('o' & 31) << 20 | ('u' & 31) << 15 | ('g' & 31) << 10 | ('h' & 31) << 5;
        static final int HEART = ('h' & 31) << 25 | ('e' & 31) << 20 | ('a' & 31) << 15 | ('r' & 31) << 10 | ('t' & 31) << 5;
        static final int DOUBT = ('d' & 31) << 25 | ('o' & 31) << 20 | ('u' & 31) << 15 | ('b' & 31) << 10 | ('t' & 31) << 5;
        static final int CHILD = ('c' & 31) << 25 | ('h' & 31) << 20 | ('i' & 31) << 15 | ('l' & 31) << 10 | ('d' & 31) << 5;
        static final int OR = ('o' & 31) << 25 | ('r' & 31) << 20;
        static final int AND = ('a' & 31) << 25 | ('n' & 31) << 20 | ('d' & 31) << 15;
        static final int NOT = ('n' & 31) << 25 | ('o' & 31) << 20 | ('t' & 31) << 15;
        static final int WEIGHT = ('w' & 31) << 25 | ('e' & 31) << 20 | ('i' & 31) << 15 | ('g' & 31) << 10 | ('h' & 31) << 5 | 't' & 31;
        static final int WIDE = ('w' & 31) << 25 | ('i' & 31) << 20 | ('d' & 31) << 15 | ('e' & 31) << 10;
        static final int HIGH = ('h' & 31) << 25 | ('i' & 31) << 20 | ('g' & 31) << 15 | ('h' & 31) << 10;
        static final int LEFT = ('l' & 31) << 25 | ('e' & 31) << 20 | ('f' & 31) << 15 | ('t' & 31) << 10;
        static final int FOOT = ('f' & 31) << 25 | ('o' & 31) << 20 | ('o' & 31) << 15 | ('t' & 31) << 10;
        static final int ABOVE = ('a' & 31) << 25 | ('b' & 31) << 20 | ('o' & 31) << 15 | ('v' & 31) << 10 | ('e' & 31) << 5;
        static final int LOAD = ('l' & 31) << 25 | ('o' & 31) << 20 | ('a' & 31) << 15 | ('d' & 31) << 10;

        private final int[] kinds = new int[TAPE_LENGTH + 1];
        private final int[] places = new int[TAPE_LENGTH + 1];
        private final int[] values = new int[TAPE_LENGTH + 1];
        private int tokens;
        private int token;
        private byte[] signs;
        private int length;
        private int at;
        /** Of the TOKEN that is next. */
        int kind;
        int place;
        int value;

        void cut(byte[] newSigns, int newLength) {
            signs = newSigns;
            length = newSigns == null ? 0 : Math.min(newLength, Math.min(newSigns.length, TAPE_LENGTH));
            at = 0;
            tokens = 0;
            skipBlanks();
            while (at < length && tokens < TAPE_LENGTH) {
                places[tokens] = at;
                readOne();
                kinds[tokens] = kind;
                values[tokens] = value;
                tokens++;
                skipBlanks();
            }
            kinds[tokens] = END;
            places[tokens] = length;
            values[tokens] = 0;
            token = -1;
            next();
        }

        void next() {
            if (token < tokens) {
                token++;
            }
            if (token >= 0 && token < kinds.length) {
                kind = kinds[token];
                place = places[token];
                value = values[token];
            }
        }

        /** The byte at a place; 0, which is no sign of the language, beyond the TEXT. */
        private int sign(int i) {
            return signs != null && i >= 0 && i < length && i < signs.length ? signs[i] & 255 : 0;
        }

        private void skipBlanks() {
            while (at < length && (sign(at) == 32 || sign(at) == 10)) {
                at++;
            }
        }

        private void readOne() {
            value = 0;
            int sign = sign(at);
            if (isLetter(sign)) {
                readWord();
            } else if (isDigit(sign)) {
                readNumber();
            } else {
                readSign(sign);
            }
        }

        private void readWord() {
            int letters = 0;
            while (at < length && isLetter(sign(at))) {
                if (letters < MOST_LETTERS) {
                    value |= (sign(at) & 31) << 25 - 5 * letters;
                }
                letters++;
                at++;
            }
            kind = letters > MOST_LETTERS ? WRONG : WORD;
        }

        private void readNumber() {
            while (at < length && isDigit(sign(at))) {
                value = Math.min(value * 10 + sign(at) - '0', MUCH);
                at++;
            }
            kind = NUMBER;
        }

        private void readSign(int sign) {
            kind = SIGN;
            value = sign;
            at++;
            switch (sign) {
                case ';': case '(': case ')': case '+': case '-': case '*': case '/': case '=':
                    return;
                case '<':
                    takeIf('=', LESS_OR_SAME);
                    takeIf('>', UNLIKE);
                    return;
                case '>':
                    takeIf('=', MORE_OR_SAME);
                    return;
                default:
                    kind = WRONG;
            }
        }

        /** Only a sign that is not yet one of two takes a second one. */
        private void takeIf(int second, int both) {
            if (value < 256 && sign(at) == second) {
                value = both;
                at++;
            }
        }

        private static boolean isLetter(int sign) {
            return sign >= 'a' && sign <= 'z';
        }

        private static boolean isDigit(int sign) {
            return sign >= '0' && sign <= '9';
        }

        boolean isWord(int word) {
            return kind == WORD && value == word;
        }

        boolean isSign(int sign) {
            return kind == SIGN && value == sign;
        }

        /** Whether the word is one of the language. */
        boolean isOfTheLanguage() {
            switch (value) {
                case SHELF: case THING: case ROUND: case ROUGH: case HEART: case DOUBT: case CHILD:
                case OR: case AND: case NOT:
                case WEIGHT: case WIDE: case HIGH: case LEFT: case FOOT: case ABOVE: case LOAD:
                    return true;
                default:
                    return false;
            }
        }
    }

    /** What a TEXT tells. */
    private static final class Told {
        static final int COMMON_SHELF = 20;
        static final int COMMON_ROUGH = 5;

        final int[] name = new int[MOST_THINGS];
        final int[] left = new int[MOST_THINGS];
        final int[] foot = new int[MOST_THINGS];
        final int[] wide = new int[MOST_THINGS];
        final int[] high = new int[MOST_THINGS];
        final int[] weight = new int[MOST_THINGS];
        final int[] rough = new int[MOST_THINGS];
        final int[] doubt = new int[MOST_THINGS];
        /** Where the weight is, in HALVES from the left of the THING. */
        final int[] heart = new int[MOST_THINGS];
        int roundOnes;
        int number;
        int shelf = COMMON_SHELF;
        boolean shelfTold;
        final Wish wish = new Wish();

        void clear() {
            number = 0;
            roundOnes = 0;
            shelf = COMMON_SHELF;
            shelfTold = false;
            wish.length = 0;
        }

        int everything() {
            return (1 << number) - 1;
        }

        int find(int letters) {
            for (int t = 0; t < number; t++) {
                if (name[t] == letters) {
                    return t;
                }
            }
            return NONE;
        }

        boolean isRound(int thing) {
            return (roundOnes >> thing & 1) != 0;
        }

        /** Whether two THINGS have more than an end in common along, at these LEFTS. */
        boolean meetAlong(int one, int itsLeft, int other, int othersLeft) {
            return itsLeft < othersLeft + wide[other] && othersLeft < itsLeft + wide[one];
        }

        /** Whether two THINGS would take up some of each other, at these places. */
        boolean collide(int one, int itsLeft, int itsFoot, int other, int othersLeft, int othersFoot) {
            return meetAlong(one, itsLeft, other, othersLeft)
                    && itsFoot < othersFoot + high[other] && othersFoot < itsFoot + high[one];
        }

        /** The first HALF that a THING can stand with: a round one has its middle alone. */
        int spanFrom(int thing, int itsLeft) {
            return isRound(thing) ? 2 * itsLeft + wide[thing] : 2 * itsLeft;
        }

        int spanTo(int thing, int itsLeft) {
            return isRound(thing) ? 2 * itsLeft + wide[thing] : 2 * (itsLeft + wide[thing]);
        }
    }

    /** Reads a TEXT, up to its first FAULT. */
    private static final class Reader {
        static final int CANT_STAND = 1;
        static final int TOO_MUCH = 2;
        static final int TOLD_ALREADY = 3;
        static final int TAKEN_UP = 4;

        final Scanner scanner = new Scanner();
        final WishReader wishes = new WishReader();
        Told told;
        int lines;
        int fault;
        int place = NONE;
        private int number;

        /** Whether a TEXT without a FAULT was read into what is told. */
        boolean read(byte[] signs, int length, Told into) {
            told = into;
            into.clear();
            lines = 0;
            fault = 0;
            place = NONE;
            scanner.cut(signs, length);
            boolean good = true;
            while (good && scanner.kind != Scanner.END && lines < TAPE_LENGTH) {
                if (scanner.isWord(Scanner.SHELF)) {
                    good = readShelf();
                } else if (scanner.isWord(Scanner.THING)) {
                    good = readThing();
                } else if (scanner.isWord(Scanner.CHILD)) {
                    good = readChild();
                } else {
                    good = refuse(CANT_STAND);
                }
                lines++;
            }
            return good;
        }

        /** A FAULT at the TOKEN that is next. */
        private boolean refuse(int newFault) {
            fault = newFault;
            place = scanner.place;
            return false;
        }

        private boolean readNumber(int least, int most) {
            if (scanner.kind != Scanner.NUMBER) {
                return refuse(CANT_STAND);
            }
            if (scanner.value < least || scanner.value > most) {
                return refuse(TOO_MUCH);
            }
            number = scanner.value;
            scanner.next();
            return true;
        }

        private boolean readShelf() {
            if (told.shelfTold) {
                return refuse(TOLD_ALREADY);
            }
            told.shelfTold = true;
            scanner.next();
            if (!readNumber(1, 40)) {
                return false;
            }
            told.shelf = number;
            return readEnd();
        }

        private boolean readEnd() {
            if (!scanner.isSign(';')) {
                return refuse(CANT_STAND);
            }
            scanner.next();
            return true;
        }

        private boolean readChild() {
            if (told.wish.isTold()) {
                return refuse(TOLD_ALREADY);
            }
            scanner.next();
            int found = wishes.read(scanner, told.wish);
            return found == 0 ? readEnd() : refuse(found);
        }

        private boolean readThing() {
            int t = told.number;
            if (t >= MOST_THINGS) {
                return refuse(TOO_MUCH);
            }
            scanner.next();
            int namePlace = scanner.place;
            if (scanner.kind != Scanner.WORD || scanner.isOfTheLanguage()) {
                return refuse(CANT_STAND);
            }
            if (told.find(scanner.value) >= 0) {
                return refuse(TOLD_ALREADY);
            }
            told.name[t] = scanner.value;
            scanner.next();
            if (!readMeasures(t) || !readManners(t)) {
                return false;
            }
            if (scanner.isSign(';') && takesUpAnothers(t)) {
                refuse(TAKEN_UP);
                place = namePlace;
                return false;
            }
            told.number = t + 1;
            return readEnd();
        }

        private boolean readMeasures(int t) {
            return readInto(told.left, t, 0, MOST_PLACE) && readInto(told.foot, t, 0, MOST_PLACE)
                    && readInto(told.wide, t, 1, 12) && readInto(told.high, t, 1, 12)
                    && readInto(told.weight, t, 1, 99);
        }

        private boolean readInto(int[] row, int t, int least, int most) {
            if (!readNumber(least, most)) {
                return false;
            }
            if (row != null && t >= 0 && t < row.length) {
                row[t] = number;
            }
            return true;
        }

        /** Round, rough, heart, doubt: each once at most, in whatever order. */
        private boolean readManners(int t) {
            told.heart[t] = told.wide[t];
            told.rough[t] = Told.COMMON_ROUGH;
            told.doubt[t] = 0;
            int seen = 0;
            boolean good = true;
            for (int i = 0; i <= 4 && good; i++) {
                int bit = mannerBit();
                if (bit == 0) {
                    return true;
                }
                if ((seen & bit) != 0) {
                    return refuse(TOLD_ALREADY);
                }
                seen |= bit;
                scanner.next();
                good = readManner(bit, t);
            }
            return good;
        }

        private int mannerBit() {
            if (scanner.kind != Scanner.WORD) {
                return 0;
            }
            switch (scanner.value) {
                case Scanner.ROUND: return 1;
                case Scanner.ROUGH: return 2;
                case Scanner.HEART: return 4;
                case Scanner.DOUBT: return 8;
                default: return 0;
            }
        }

        private boolean readManner(int bit, int t) {
            switch (bit) {
                case 1:
                    told.roundOnes |= 1 << t;
                    return true;
                case 2:
                    return readInto(told.rough, t, 0, 10);
                case 4:
                    return readInto(told.heart, t, 0, 2 * told.wide[t]);
                default:
                    return readInto(told.doubt, t, 0, 5);
            }
        }

        private boolean takesUpAnothers(int t) {
            for (int i = 0; i < t; i++) {
                if (told.collide(t, told.left[t], told.foot[t], i, told.left[i], told.foot[i])) {
                    return true;
                }
            }
            return false;
        }
    }

    /** Reads the E of a child, and turns it so that every sign comes behind its sides. */
    private static final class WishReader {
        static final int MOST_OPEN = 8;
        static final int MOST_NUMBER = 9999;
        private static final int BRACKET = 0;

        private Scanner scanner;
        private final int[] waiting = new int[Wish.MOST_KNOTS + MOST_OPEN];
        private int waits;
        private int open;
        private int knots;
        private Wish wish;

        /** The FAULT at the TOKEN that the scanner is at; 0, if E ends ahead of a ; there. */
        int read(Scanner newScanner, Wish into) {
            scanner = newScanner;
            wish = into;
            into.length = 0;
            waits = 0;
            open = 0;
            knots = 0;
            int fault = 0;
            boolean sideDue = true;
            boolean ended = false;
            for (int i = 0; i < TAPE_LENGTH && fault == 0 && !ended; i++) {
                if (sideDue) {
                    boolean opens = scanner.isSign('(') || scanner.isWord(Scanner.NOT);
                    fault = readSide();
                    sideDue = opens;
                } else if (scanner.isSign(';')) {
                    fault = open > 0 ? Reader.CANT_STAND : 0;
                    ended = true;
                } else {
                    boolean closes = scanner.isSign(')');
                    fault = closes ? close() : readBetween();
                    sideDue = !closes;
                }
                if (fault == 0 && !ended) {
                    scanner.next();
                }
            }
            settle(Wish.OR);
            return fault;
        }

        /** A number, a name, or what may be ahead of one. */
        private int readSide() {
            if (scanner.isSign('(')) {
                if (open >= MOST_OPEN) {
                    return Reader.TOO_MUCH;
                }
                open++;
                await(BRACKET);
                return 0;
            }
            if (scanner.isWord(Scanner.NOT)) {
                if (!mayDeny()) {
                    return Reader.CANT_STAND;
                }
                await(Wish.NOT);
                return countKnot();
            }
            int name = scanner.kind == Scanner.WORD ? nameIndex(scanner.value) : NONE;
            if (name < 0 && scanner.kind != Scanner.NUMBER) {
                return Reader.CANT_STAND;
            }
            if (name < 0 && scanner.value > MOST_NUMBER) {
                return Reader.TOO_MUCH;
            }
            wish.put(name < 0 ? scanner.value : Wish.FIRST_NAME + name);
            return countKnot();
        }

        private int countKnot() {
            knots++;
            return knots > Wish.MOST_KNOTS ? Reader.TOO_MUCH : 0;
        }

        /** A "not" is no side of a sign: it can stand only where a B begins. */
        private boolean mayDeny() {
            int last = lastWaiting();
            return waits == 0 || last == BRACKET || last == Wish.AND || last == Wish.OR || last == Wish.NOT;
        }

        private int readBetween() {
            int sign = betweenSign();
            if (sign == 0) {
                return Reader.CANT_STAND;
            }
            if (Wish.strength(sign) == Wish.COMPARING) {
                settle(Wish.PLUS);
                if (waits > 0 && Wish.strength(lastWaiting()) == Wish.COMPARING) {
                    return Reader.CANT_STAND;
                }
            } else {
                settle(sign);
            }
            await(sign);
            return countKnot();
        }

        private int betweenSign() {
            if (scanner.kind == Scanner.WORD) {
                if (scanner.value == Scanner.AND) {
                    return Wish.AND;
                }
                return scanner.value == Scanner.OR ? Wish.OR : 0;
            }
            if (scanner.kind != Scanner.SIGN) {
                return 0;
            }
            switch (scanner.value) {
                case '<': return Wish.LESS;
                case Scanner.LESS_OR_SAME: return Wish.LESS_OR_SAME;
                case '=': return Wish.SAME;
                case Scanner.UNLIKE: return Wish.UNLIKE;
                case Scanner.MORE_OR_SAME: return Wish.MORE_OR_SAME;
                case '>': return Wish.MORE;
                case '+': return Wish.PLUS;
                case '-': return Wish.MINUS;
                case '*': return Wish.TIMES;
                case '/': return Wish.BY;
                default: return 0;
            }
        }

        private int close() {
            if (open <= 0) {
                return Reader.CANT_STAND;
            }
            open--;
            settle(Wish.OR);
            if (waits > 0) {
                waits--;
            }
            return 0;
        }

        /** All waiting signs that bind as much as a sign or more come now, up to a bracket. */
        private void settle(int sign) {
            for (int i = waits; i > 0 && lastWaiting() != BRACKET
                    && Wish.strength(lastWaiting()) >= Wish.strength(sign); i--) {
                wish.put(lastWaiting());
                waits--;
            }
        }

        private int lastWaiting() {
            return waits > 0 && waits <= waiting.length ? waiting[waits - 1] : BRACKET;
        }

        private void await(int sign) {
            if (waits < waiting.length) {
                waiting[waits] = sign;
                waits++;
            }
        }

        private static int nameIndex(int word) {
            switch (word) {
                case Scanner.WEIGHT: return Wish.WEIGHT;
                case Scanner.WIDE: return Wish.WIDE;
                case Scanner.HIGH: return Wish.HIGH;
                case Scanner.LEFT: return Wish.LEFT;
                case Scanner.FOOT: return Wish.FOOT;
                case Scanner.ABOVE: return Wish.ABOVE;
                case Scanner.LOAD: return Wish.LOAD;
                case Scanner.ROUGH: return Wish.ROUGH;
                default: return NONE;
            }
        }
    }

    /** The E of a child: numbers, names (from FIRST_NAME on) and signs (below 0) behind their sides. */
    private static final class Wish {
        static final int MOST_KNOTS = 64;
        static final int FIRST_NAME = 10000;
        static final long MOST_VALUE = 1000000000000L;

        static final int WEIGHT = 0;
        static final int WIDE = 1;
        static final int HIGH = 2;
        static final int LEFT = 3;
        static final int FOOT = 4;
        static final int ABOVE = 5;
        static final int LOAD = 6;
        static final int ROUGH = 7;
        static final int NAMES = 8;

        static final int OR = -1;
        static final int AND = -2;
        static final int NOT = -3;
        static final int LESS = -4;
        static final int LESS_OR_SAME = -5;
        static final int SAME = -6;
        static final int UNLIKE = -7;
        static final int MORE_OR_SAME = -8;
        static final int MORE = -9;
        static final int PLUS = -10;
        static final int MINUS = -11;
        static final int TIMES = -12;
        static final int BY = -13;

        static final int COMPARING = 4;

        private final int[] code = new int[MOST_KNOTS];
        private final long[] values = new long[MOST_KNOTS];
        final long[] facts = new long[NAMES];
        int length;

        boolean isTold() {
            return length > 0;
        }

        void put(int knot) {
            if (length < MOST_KNOTS) {
                code[length] = knot;
                length++;
            }
        }

        /** How much a sign binds: "or" the least. */
        static int strength(int sign) {
            if (sign >= NOT) {
                return -sign;
            }
            if (sign >= MORE) {
                return COMPARING;
            }
            return sign >= MINUS ? 5 : 6;
        }

        /** E by the facts; Long.MIN_VALUE, which is no VALUE, with an ERROR. */
        long worth() {
            int top = 0;
            for (int i = 0; i < length; i++) {
                int knot = code[i];
                long value;
                if (knot >= 0) {
                    value = valueOf(knot);
                } else if (knot == NOT) {
                    top--;
                    value = top >= 0 && values[top] == 0 ? 1 : 0;
                } else {
                    top -= 2;
                    value = top >= 0 && top + 1 < MOST_KNOTS
                            ? together(knot, values[top], values[top + 1]) : Long.MIN_VALUE;
                }
                if (value > MOST_VALUE || value < -MOST_VALUE || top < 0 || top >= MOST_KNOTS) {
                    return Long.MIN_VALUE;
                }
                values[top] = value;
                top++;
            }
            return values[0];
        }

        private long valueOf(int knot) {
            int name = knot - FIRST_NAME;
            return name >= 0 && name < NAMES ? facts[name] : knot;
        }

        private static long together(int sign, long a, long b) {
            switch (sign) {
                case OR: return a != 0 || b != 0 ? 1 : 0;
                case AND: return a != 0 && b != 0 ? 1 : 0;
                case LESS: return a < b ? 1 : 0;
                case LESS_OR_SAME: return a <= b ? 1 : 0;
                case SAME: return a == b ? 1 : 0;
                case UNLIKE: return a != b ? 1 : 0;
                case MORE_OR_SAME: return a >= b ? 1 : 0;
                case MORE: return a > b ? 1 : 0;
                case PLUS: return a + b;
                case MINUS: return a - b;
                case TIMES: return product(a, b);
                default: return b == 0 ? Long.MIN_VALUE : a / b;
            }
        }

        /** Long.MIN_VALUE, if it is too much: the product itself might not fit a long. */
        private static long product(long a, long b) {
            if (a == 0) {
                return 0;
            }
            return Math.abs(b) > MOST_VALUE / Math.abs(a) ? Long.MIN_VALUE : a * b;
        }
    }

    /** Which THINGS are there, and where. */
    private static final class Scene {
        int there;
        final int[] left = new int[MOST_THINGS];
        final int[] foot = new int[MOST_THINGS];

        void copy(Scene other) {
            there = other.there;
            for (int t = 0; t < MOST_THINGS; t++) {
                left[t] = other.left[t];
                foot[t] = other.foot[t];
            }
        }

        boolean has(int thing) {
            return (there >> thing & 1) != 0;
        }

        void remove(int thing) {
            there &= ~(1 << thing);
        }
    }

    /** What has been ahead, the latest 30 at most. */
    private static final class History {
        static final int MOST_KEPT = 30;

        private final Scene[] ring;
        private int next;
        int kept;

        History() {
            ring = new Scene[MOST_KEPT];
            for (int i = 0; i < MOST_KEPT; i++) {
                ring[i] = new Scene();
            }
        }

        void clear() {
            kept = 0;
        }

        void remember(Scene scene) {
            copyBetween(scene, ring[next]);
            next = (next + 1) % MOST_KEPT;
            kept = Math.min(kept + 1, MOST_KEPT);
        }

        void recall(Scene into) {
            next = (next + MOST_KEPT - 1) % MOST_KEPT;
            copyBetween(ring[next], into);
            kept = Math.max(kept - 1, 0);
        }

        private static void copyBetween(Scene from, Scene into) {
            if (from != null && into != null) {
                into.copy(from);
            }
        }
    }

    /** Who stands on whom, and by what EDGES, told for all THINGS, there or not. */
    private static final class Edges {
        static final int SHELF = MOST_THINGS;
        static final int ROW = MOST_THINGS + 1;

        /** The THINGS from the highest FOOT down, of several by numbers. */
        final int[] order = new int[MOST_THINGS];
        final int[] size = new int[MOST_THINGS];
        // A row for each THING: its EDGES from left to right, of several by numbers.
        final int[] on = new int[MOST_THINGS * ROW];
        final int[] from = new int[MOST_THINGS * ROW];
        final int[] to = new int[MOST_THINGS * ROW];

        void trace(Told told, Scene scene) {
            for (int t = 0; t < told.number; t++) {
                size[t] = 0;
                if (scene.foot[t] == 0) {
                    add(t, SHELF, Math.max(0, told.spanFrom(t, scene.left[t])),
                            Math.min(2 * told.shelf, told.spanTo(t, scene.left[t])), told.isRound(t));
                }
                for (int u = 0; u < told.number; u++) {
                    if (u != t && scene.foot[t] == scene.foot[u] + told.high[u]) {
                        addBetween(told, scene, t, u);
                    }
                }
            }
            sortByFoot(told.number, scene);
        }

        private void addBetween(Told told, Scene scene, int t, int u) {
            add(t, u, Math.max(told.spanFrom(t, scene.left[t]), told.spanFrom(u, scene.left[u])),
                    Math.min(told.spanTo(t, scene.left[t]), told.spanTo(u, scene.left[u])),
                    told.isRound(t) || told.isRound(u));
        }

        private void add(int t, int newOn, int newFrom, int newTo, boolean pointIsEnough) {
            if (newFrom > newTo || newFrom == newTo && !pointIsEnough || size[t] >= ROW) {
                return;
            }
            int start = t * ROW;
            int i = start + size[t];
            while (i > start && from[i - 1] > newFrom) {
                on[i] = on[i - 1];
                from[i] = from[i - 1];
                to[i] = to[i - 1];
                i--;
            }
            on[i] = newOn;
            from[i] = newFrom;
            to[i] = newTo;
            size[t]++;
        }

        private void sortByFoot(int number, Scene scene) {
            for (int t = 0; t < number; t++) {
                int i = t;
                while (i > 0 && scene.foot[order[i - 1]] < scene.foot[t]) {
                    order[i] = order[i - 1];
                    i--;
                }
                order[i] = t;
            }
        }

        /** Where the EDGE of a THING on another one is in the rows; NONE, if there is none. */
        int find(int thing, int other) {
            int start = thing * ROW;
            for (int i = start; i < start + size[thing]; i++) {
                if (on[i] == other) {
                    return i;
                }
            }
            return NONE;
        }

        /** Whether a THING has an EDGE on the SHELF or on one of a set. */
        boolean hasAny(int thing, int set) {
            int start = thing * ROW;
            for (int i = start; i < start + size[thing]; i++) {
                if (isOnOneOf(i, set)) {
                    return true;
                }
            }
            return false;
        }

        /** Whether an EDGE, by its place in the rows, is on the SHELF or on one of a set. */
        boolean isOnOneOf(int i, int set) {
            return on[i] == SHELF || (set >> on[i] & 1) != 0;
        }
    }

    /** The THINGS of a TEXT at their places, and what each bears. */
    private static final class Pile {
        static final int TIPS = 1;
        static final int HANGS = 2;
        /** Each drop lowers a FOOT or loses a THING, so there are fewer than these. */
        static final int MOST_DROPS = 1000;
        static final int LOST = -1;

        Told told;
        final Scene scene = new Scene();
        final Edges edges = new Edges();
        final long[] load = new long[MOST_THINGS];
        final long[] moment = new long[MOST_THINGS];
        final int[] fate = new int[MOST_THINGS];
        final int[] gone = new int[MOST_THINGS + 1];
        int rounds;
        private int heavier = NONE;
        private int more;

        Pile(Told newTold) {
            told = newTold;
        }

        /** All THINGS are there as told. */
        void begin(Told newTold) {
            told = newTold;
            scene.there = newTold.everything();
            for (int t = 0; t < MOST_THINGS; t++) {
                scene.left[t] = newTold.left[t];
                scene.foot[t] = newTold.foot[t];
            }
            findEdges();
        }

        void follow(Pile other) {
            told = other.told;
            scene.copy(other.scene);
            findEdges();
        }

        void findEdges() {
            edges.trace(told, scene);
        }

        int heartPlace(int thing) {
            return 2 * scene.left[thing] + told.heart[thing];
        }

        int whoStandsOn(int thing) {
            int found = 0;
            for (int t = 0; t < told.number; t++) {
                if (scene.has(t) && edges.find(t, thing) >= 0) {
                    found |= 1 << t;
                }
            }
            return found;
        }

        int weightThere() {
            int sum = 0;
            for (int t = 0; t < told.number; t++) {
                sum += scene.has(t) ? told.weight[t] : 0;
            }
            return sum;
        }

        int highestTop() {
            int top = 0;
            for (int t = 0; t < told.number; t++) {
                if (scene.has(t)) {
                    top = Math.max(top, scene.foot[t] + told.high[t]);
                }
            }
            return top;
        }

        boolean isTakenUp(int thing, int left) {
            for (int t = 0; t < told.number; t++) {
                if (t != thing && scene.has(t)
                        && told.collide(thing, left, scene.foot[thing], t, scene.left[t], scene.foot[t])) {
                    return true;
                }
            }
            return false;
        }

        /** BEARING of a set: those of it that FALL. */
        int weigh(int set, int held, int wedged) {
            for (int t = 0; t < told.number; t++) {
                if ((set >> t & 1) != 0) {
                    load[t] = (told.weight[t] + (t == heavier ? more : 0)) * UNIT;
                    moment[t] = load[t] * heartPlace(t);
                    fate[t] = 0;
                }
            }
            int fallen = 0;
            for (int i = 0; i < told.number; i++) {
                int t = edges.order[i];
                int one = 1 << t;
                if ((set & one) != 0 && (held & one) == 0) {
                    fate[t] = passOn(t, set, (wedged & one) != 0);
                    fallen |= fate[t] == 0 ? 0 : one;
                }
            }
            return fallen;
        }

        /** Hands on what a THING bears, by its EDGES from left to right: its fate. */
        private int passOn(int t, int set, boolean wedged) {
            int start = t * Edges.ROW;
            int first = NONE;
            int ahead = NONE;
            int last = NONE;
            for (int i = start; i < start + edges.size[t]; i++) {
                if (!edges.isOnOneOf(i, set)) {
                    continue;
                }
                if (moment[t] < load[t] * edges.from[i]) {
                    if (ahead >= 0) {
                        share(t, ahead, i);
                        return 0;
                    }
                } else if (moment[t] <= load[t] * edges.to[i]) {
                    put(edges.on[i], load[t], moment[t]);
                    return 0;
                } else {
                    ahead = i;
                }
                first = first < 0 ? i : first;
                last = last < 0 || edges.to[i] >= edges.to[last] ? i : last;
            }
            if (first < 0) {
                return HANGS;
            }
            if (!wedged) {
                return TIPS;
            }
            if (ahead < 0) {
                put(edges.on[first], load[t], load[t] * edges.from[first]);
            } else {
                put(edges.on[last], load[t], load[t] * edges.to[last]);
            }
            return 0;
        }

        private void share(int t, int ahead, int next) {
            long b = edges.to[ahead];
            long a = edges.from[next];
            if (a <= b) {
                return;
            }
            long part = (moment[t] - load[t] * b) / (a - b);
            long rest = load[t] - part;
            put(edges.on[next], part, part * a);
            put(edges.on[ahead], rest, rest * b);
        }

        private void put(int on, long newLoad, long newMoment) {
            if (on != Edges.SHELF) {
                load[on] += newLoad;
                moment[on] += newMoment;
            }
        }

        boolean standsAsItIs() {
            return weigh(scene.there, 0, 0) == 0;
        }

        boolean standsWithMore(int thing, int newMore) {
            heavier = thing;
            more = newMore;
            boolean holds = standsAsItIs();
            heavier = NONE;
            more = 0;
            return holds;
        }

        /** What is left of a set when WHAT FALLS is gone; the ROUNDS are kept. */
        int collapse(int set) {
            int left = set;
            rounds = 0;
            int fallen = weigh(left, 0, 0);
            while (fallen != 0 && rounds < MOST_THINGS) {
                gone[rounds] = fallen;
                rounds++;
                left &= ~fallen;
                fallen = weigh(left, 0, 0);
            }
            return left;
        }

        /** The greatest push at the top of a THING; what is there STANDS and is weighed. */
        int greatestPush(int thing, int side, int kind) {
            int twiceHigh = 2 * told.high[thing];
            if (told.isRound(thing) || twiceHigh <= 0) {
                return 0;
            }
            int rough = told.rough[thing];
            if (kind == 1) {
                rough = Math.max(0, rough - told.doubt[thing]);
            } else if (kind == 2) {
                rough += told.doubt[thing];
            }
            long lean = side == 0 ? load[thing] * rightEnd(thing) - moment[thing]
                    : moment[thing] - load[thing] * leftEnd(thing);
            return (int) (Math.min(rough * load[thing] / 10, lean / twiceHigh) / UNIT);
        }

        /** Where the EDGES of a THING begin, of those on what is there; NONE without. */
        private int leftEnd(int thing) {
            int end = NONE;
            for (int i = thing * Edges.ROW; i < thing * Edges.ROW + edges.size[thing]; i++) {
                if (edges.isOnOneOf(i, scene.there)) {
                    end = end < 0 ? edges.from[i] : Math.min(end, edges.from[i]);
                }
            }
            return end;
        }

        private int rightEnd(int thing) {
            int end = NONE;
            for (int i = thing * Edges.ROW; i < thing * Edges.ROW + edges.size[thing]; i++) {
                if (edges.isOnOneOf(i, scene.there)) {
                    end = Math.max(end, edges.to[i]);
                }
            }
            return end;
        }

        /** A THING is gone, and what then has no EDGE comes down or is lost; nothing FALLS yet. */
        void pullOut(int thing) {
            scene.remove(thing);
            int next = nextToDrop();
            for (int i = 0; i < MOST_DROPS && next >= 0; i++) {
                int foot = landing(next);
                if (foot == LOST) {
                    scene.remove(next);
                } else {
                    scene.foot[next] = foot;
                    findEdges();
                }
                next = nextToDrop();
            }
        }

        private int nextToDrop() {
            int best = NONE;
            for (int t = 0; t < told.number; t++) {
                if (scene.has(t) && (best < 0 || scene.foot[t] < scene.foot[best])
                        && !edges.hasAny(t, scene.there) && landing(t) != scene.foot[t]) {
                    best = t;
                }
            }
            return best;
        }

        /** Where a THING comes down to; here a round one counts with all that it takes up. */
        private int landing(int thing) {
            int best = scene.left[thing] < told.shelf ? 0 : LOST;
            for (int t = 0; t < told.number; t++) {
                if (t != thing && scene.has(t)
                        && told.meetAlong(thing, scene.left[thing], t, scene.left[t])) {
                    int top = scene.foot[t] + told.high[t];
                    best = top <= scene.foot[thing] ? Math.max(best, top) : best;
                }
            }
            return best;
        }

        int childsChoice() {
            weigh(scene.there, 0, 0);
            int best = NONE;
            long most = 0;
            for (int t = 0; t < told.number; t++) {
                if (scene.has(t)) {
                    long value = told.wish.isTold() ? wishFor(t) : 0;
                    value = value == Long.MIN_VALUE ? 0 : value;
                    if (best < 0 || value > most) {
                        best = t;
                        most = value;
                    }
                }
            }
            return best;
        }

        /** E of a THING, once what is there has been weighed. */
        long wishFor(int thing) {
            long[] facts = told.wish.facts;
            facts[Wish.WEIGHT] = told.weight[thing];
            facts[Wish.WIDE] = told.wide[thing];
            facts[Wish.HIGH] = told.high[thing];
            facts[Wish.LEFT] = scene.left[thing];
            facts[Wish.FOOT] = scene.foot[thing];
            facts[Wish.ABOVE] = Integer.bitCount(whoStandsOn(thing));
            facts[Wish.LOAD] = load[thing] / UNIT;
            facts[Wish.ROUGH] = told.rough[thing];
            return told.wish.worth();
        }
    }

    /** Orders by which all that is there can be had down; kept until what is there changes. */
    private static final class Orders {
        /** Stands for nobody where bits tell who is HELD. */
        static final int NOBODY = 1 << MOST_THINGS;
        /** Far more than any search needs: each way that leads nowhere is tried once. */
        static final int MOST_STEPS = 1000000;

        private Pile pile;
        private int hands;
        // For each set: who, HELD, is known to let it stand or not, and who does.
        private final int[] asked = new int[SETS];
        private final int[] calm = new int[SETS];
        /** For each set: who, HELD, is known to lead nowhere from there. */
        private final int[] vain = new int[SETS];
        // Step by step: what is there, who may be HELD, what is taken.
        private final int[] sets = new int[MOST_THINGS + 1];
        private final int[] held = new int[MOST_THINGS + 1];
        private final int[] taken = new int[MOST_THINGS];
        private final int[] order = new int[2 * MOST_THINGS];
        private int answered;
        private int possible;

        void forget() {
            answered = 0;
        }

        boolean hasAnswered(int withHands) {
            return (answered & withHands) != 0;
        }

        boolean isPossible(int withHands) {
            return (possible & withHands) != 0;
        }

        int taken(int withHands, int i) {
            int at = (withHands - 1) * MOST_THINGS + i;
            return i >= 0 && i < MOST_THINGS && at >= 0 && at < order.length ? order[at] : NONE;
        }

        /**
         * Looks for the first order. All that may be HELD at a step is carried along, for an order is told by what is
         * taken alone.
         */
        void search(Pile newPile, int newHands) {
            begin(newPile, newHands);
            int step = 0;
            int next = 0;
            for (int i = 0; i < MOST_STEPS && step >= 0 && step < MOST_THINGS && sets[step] != 0; i++) {
                int set = sets[step];
                int then = heldBehind(set, held[step], 1 << next);
                if (then != 0) {
                    taken[step] = next;
                    step++;
                    sets[step] = set & ~(1 << next);
                    held[step] = then;
                    next = 0;
                } else if (next < MOST_THINGS - 1) {
                    next++;
                } else {
                    vain[set] |= held[step];
                    step--;
                    next = step < 0 ? 0 : taken[step];
                }
            }
            if (step >= 0 && sets[step] == 0) {
                possible |= hands;
                System.arraycopy(taken, 0, order, (hands - 1) * MOST_THINGS, step);
            }
        }

        private void begin(Pile newPile, int newHands) {
            pile = newPile;
            hands = newHands;
            for (int set = 0; set < SETS; set++) {
                asked[set] = answered == 0 ? 0 : asked[set];
                vain[set] = 0;
            }
            answered |= hands;
            possible &= ~hands;
            sets[0] = pile.scene.there;
            held[0] = anyOf(pile.scene.there);
        }

        /** Who may be HELD, where one may choose. */
        private int anyOf(int set) {
            return hands == 2 ? set | NOBODY : NOBODY;
        }

        /** Who may be HELD when one has been taken, of those that may still lead on; 0, if it may not be taken. */
        private int heldBehind(int set, int before, int one) {
            int rest = set & ~one;
            if (rest == set || rest < 0 || rest >= SETS) {
                return 0;
            }
            int after = (before & one) == 0 ? before : before & ~one | NOBODY;
            int found = 0;
            for (int h = 0; h <= MOST_THINGS; h++) {
                if ((after >> h & 1) != 0 && isCalm(rest, 1 << h)) {
                    found |= 1 << h;
                }
            }
            if (found != 0 && isCalm(rest, NOBODY)) {
                found = anyOf(rest);
            }
            return found & ~vain[rest];
        }

        private boolean isCalm(int set, int hold) {
            if ((asked[set] & hold) == 0) {
                asked[set] |= hold;
                boolean stands = pile.weigh(set, hold & ~NOBODY, 0) == 0;
                calm[set] = stands ? calm[set] | hold : calm[set] & ~hold;
            }
            return (calm[set] & hold) != 0;
        }
    }

    /** Piles that could be built: the highest, and those that reach farthest over the edge. */
    private static final class Shapes {
        static final int WIDEST = 12;

        /** For each set: how high a pile of just these is, with none of the WIDE that is looked at now; or NONE. */
        private final int[] height = new int[SETS];
        int bestHigh;
        int bestSet;
        private Told told;
        // A pile of one upon the other, the lowest first: which THING, and its LEFT from the lowest one's.
        private final int[] storey = new int[3];
        private final int[] left = new int[3];
        private int storeys;

        void pileUp(Told newTold, int set) {
            told = newTold;
            bestHigh = 0;
            bestSet = 0;
            for (int pile = 0; pile <= set && pile < SETS; pile++) {
                height[pile] = pile == 0 ? 0 : NONE;
            }
            for (int wide = WIDEST; wide >= 1; wide--) {
                int usable = thoseAsWide(wide) & set;
                // A pile with one more is a greater number, so none gets two of the same width.
                for (int pile = set; pile >= 0 && usable != 0; pile--) {
                    if (pile < SETS && height[pile] >= 0) {
                        addOne(pile, usable & ~pile, wide);
                    }
                }
            }
        }

        private int thoseAsWide(int wide) {
            int found = 0;
            for (int t = 0; t < told.number; t++) {
                found |= told.wide[t] == wide || told.high[t] == wide ? 1 << t : 0;
            }
            return found;
        }

        /** Puts each of some, as they are or on their side, upon a pile. */
        private void addOne(int pile, int some, int wide) {
            for (int t = 0; t < told.number; t++) {
                if ((some >> t & 1) != 0) {
                    int high = told.wide[t] == wide ? told.high[t] : told.wide[t];
                    offer(pile | 1 << t, height[pile] + high, told.isRound(t));
                }
            }
        }

        private void offer(int pile, int high, boolean endsThere) {
            if (pile < 0 || pile >= SETS) {
                return;
            }
            if (!endsThere) {
                height[pile] = Math.max(height[pile], high);
            }
            int size = Integer.bitCount(pile);
            int bestSize = Integer.bitCount(bestSet);
            if (high > bestHigh || high == bestHigh && (size < bestSize || size == bestSize && pile < bestSet)) {
                bestHigh = high;
                bestSet = pile;
            }
        }

        /** How far two or three (third not NONE) reach over the edge of a shelf that ends at 0. */
        int reach(Told newTold, int first, int second, int third) {
            told = newTold;
            storeys = third == NONE ? 2 : 3;
            storey[0] = first;
            storey[1] = second;
            storey[2] = third;
            left[0] = 0;
            int best = NONE;
            for (int y = -told.wide[second]; y <= told.wide[first]; y++) {
                left[1] = y;
                best = Math.max(best, storeys == 2 ? reachIfItStands() : reachWithThird());
            }
            return best;
        }

        private int reachWithThird() {
            int best = NONE;
            for (int z = left[1] - told.wide[storey[2]]; z <= left[1] + told.wide[storey[1]]; z++) {
                left[2] = z;
                best = Math.max(best, reachIfItStands());
            }
            return best;
        }

        /** All that is above goes down as it is, for each has one EDGE alone; then the whole goes right. */
        private int reachIfItStands() {
            long load = 0;
            long moment = 0;
            int reach = 0;
            for (int i = storeys - 1; i >= 0; i--) {
                int t = storey[i];
                load += told.weight[t];
                moment += (long) told.weight[t] * (2 * left[i] + told.heart[t]);
                reach = Math.max(reach, left[i] + told.wide[t]);
                long from = told.spanFrom(t, left[i]);
                long to = told.spanTo(t, left[i]);
                boolean pointIsEnough = told.isRound(t);
                if (i > 0) {
                    int below = storey[i - 1];
                    from = Math.max(from, told.spanFrom(below, left[i - 1]));
                    to = Math.min(to, told.spanTo(below, left[i - 1]));
                    pointIsEnough = pointIsEnough || told.isRound(below);
                }
                if (from > to || from == to && !pointIsEnough || moment < load * from || moment > load * to) {
                    return NONE;
                }
            }
            return reach + shiftOntoShelf(load, moment);
        }

        /** How far a pile can go right: its weight must be above the shelf, and some of the lowest one. */
        private int shiftOntoShelf(long load, long moment) {
            if (load <= 0) {
                return 0;
            }
            int t = storey[0];
            int onShelf = told.isRound(t) ? Math.floorDiv(-told.wide[t], 2) : -1;
            return (int) Math.min(Math.floorDiv(-moment, 2 * load), onShelf);
        }
    }
}
