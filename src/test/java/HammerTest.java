import java.util.NoSuchElementException;

/** Wrong and extreme inputs in all states: no call may throw anything but look() what the document says. */
public final class HammerTest {
    private static final int[] NUMBERS = {Integer.MIN_VALUE, -1000, -512, -10, -9, -2, -1, 0, 1, 2, 3, 4, 5, 6, 7, 8, 9,
        10, 11, 15, 16, 20, 31, 32, 39, 40, 63, 64, 100, 127, 128, 255, 256, 511, 512, 600, 601, 1023,
        Integer.MAX_VALUE - 1, Integer.MAX_VALUE};
    private static final String[] TEXTS = {
        "shelf 10;thing a 0 0 4 2 5;thing b 6 0 4 2 5;thing c 2 2 6 1 3;thing r 8 2 2 2 1 round;thing d 8 4 2 1 1;"
            + "child weight*load/(left-2);",
        "",
        "shelf 40;thing a 39 0 12 12 99 round heart 24;thing b 39 39 12 12 99 round;thing c 27 39 12 12 99;"
            + "thing d 0 0 1 1 1;thing e 1 0 1 1 1;thing f 2 0 1 1 1;thing g 3 0 1 1 1;thing h 4 0 1 1 1;thing i 5 0 1 1 1;"
            + "child 9999*9999*9999*weight*weight;",
        "shelf 1;thing a 0 0 12 1 1 heart 0;thing b 11 1 12 1 99;thing c 20 2 12 12 9;thing d 0 39 1 12 1;child 1/0;",
        "thing a 0 0 1 1 1;thing a", "child (((((((((1;", "thing", ";", "shelf 99;"};

    private static long seed = 7;

    private static int below(int n) {
        seed = seed * 6364136223846793005L + 1442695040888963407L;
        return (int) ((seed >>> 33) % n);
    }

    private static int any() {
        return below(3) == 0 ? NUMBERS[below(NUMBERS.length)] : below(11) - 1;
    }

    public static void main(String[] args) {
        for (int run = 0; run < 600; run++) {
            TinTower x = new TinTower();
            String text = TEXTS[below(TEXTS.length)];
            Check.read(x, text);
            for (int i = 40; i < 512; i++) {
                hit(x, run, i);
            }
        }
        Check.end("HammerTest");
    }

    private static void hit(TinTower x, int run, int i) {
        int call = below(33);
        int a = any();
        int b = any();
        int c = any();
        String told = "run " + run + ", call " + i + ": " + call + " (" + a + ", " + b + ", " + c + ")";
        boolean isDue = call == 0 && (a < 0 || a >= x.count(0) || b < 0 || b > 9);
        try {
            call(x, call, a, b, c);
            Check.due(told + " throws", 0, isDue ? 1 : 0);
        } catch (IndexOutOfBoundsException e) {
            Check.due(told + " throws " + e, ownThrow(e) && isDue && (a < 0 || a >= x.count(0)) ? 1 : 0, 1);
        } catch (NoSuchElementException e) {
            Check.due(told + " throws " + e, isDue && a >= 0 && a < x.count(0) ? 1 : 0, 1);
        } catch (Throwable e) {
            Check.due(told + " throws " + e, 1, 0);
        }
    }

    /** An exception of an array's index would be of a class below. */
    private static boolean ownThrow(IndexOutOfBoundsException e) {
        return e.getClass() == IndexOutOfBoundsException.class;
    }

    private static void call(TinTower x, int call, int a, int b, int c) {
        long order = (long) b << 32 | c & 0xffffffffL;
        switch (call) {
            case 0: x.look(a, b); break;
            case 1: x.edge(a, b, c); break;
            case 2: x.above(a); break;
            case 3: x.there(); break;
            case 4: x.bears(a, b); break;
            case 5: x.stands(a, b, c); break;
            case 6: x.falls(a, b); break;
            case 7: x.may(); break;
            case 8: x.down(a, b); break;
            case 9: x.judge(a, order); break;
            case 10: x.most(a); break;
            case 11: x.push(a, b, c); break;
            case 12: x.hands(a, c % 2 == 0, b); break;
            case 13: x.pulled(a); break;
            case 14: x.drops(a, b); break;
            case 15: x.hangs(a); break;
            case 16: x.highest(a, b); break;
            case 17: x.over(a, b, c); break;
            case 18: x.child(); break;
            case 19: x.wish(a); break;
            case 20: x.named(a); break;
            default: change(x, call, a, b, c);
        }
    }

    private static void change(TinTower x, int call, int a, int b, int c) {
        switch (call) {
            case 21: x.fault(a); break;
            case 22: x.count(a); break;
            case 23: x.feed(a, b, c, a, b); break;
            case 24: x.text(a); break;
            case 25: x.spree(below(4) == 0 ? a : 0); break;
            case 26: x.take(below(4) == 0 ? a : -1); break;
            case 27: x.pull(below(4) == 0 ? a : 9); break;
            case 28: x.move(a, b); break;
            case 29: x.undo(); break;
            case 30: x.keep(); break;
            case 31: x.back(); break;
            default: Check.read(x, TEXTS[below(TEXTS.length)]); break;
        }
    }
}
