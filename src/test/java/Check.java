/** What the tests share: comparing answers and feeding texts. */
final class Check {
    private static int wrong = 0;
    private static int right = 0;
    private static final int MOST_PRINTED = 40;
    private static String about = "";

    private Check() {
    }

    /** What the comparisons from here on are for. */
    static void about(String what) {
        about = what.isEmpty() ? "" : what + ": ";
    }

    static void due(String call, long got, long want) {
        if (got == want) {
            right++;
            return;
        }
        wrong++;
        if (wrong <= MOST_PRINTED) {
            System.out.println(about + call + " answered " + got + ", due is " + want);
        }
    }

    /** Puts a text onto the tape, blanks behind it; how many bytes were there when it began. */
    static void feed(TinTower x, String text) {
        byte[] bytes = bytesOf(text);
        for (int i = 0; i < bytes.length; i += 20) {
            x.feed(four(bytes, i), four(bytes, i + 4), four(bytes, i + 8), four(bytes, i + 12), four(bytes, i + 16));
        }
    }

    static byte[] bytesOf(String text) {
        byte[] bytes = new byte[text.length()];
        for (int i = 0; i < bytes.length; i++) {
            bytes[i] = (byte) text.charAt(i);
        }
        return bytes;
    }

    static int four(byte[] bytes, int at) {
        int four = 0;
        for (int i = at; i < at + 4; i++) {
            four = four << 8 | (i < bytes.length ? bytes[i] & 255 : 32);
        }
        return four;
    }

    static int read(TinTower x, String text) {
        feed(x, text);
        return x.text(text.length());
    }

    /** A new object with a text that has no fault. */
    static TinTower of(String text) {
        TinTower x = new TinTower();
        if (read(x, text) < 0) {
            due("text of \"" + text + "\": fault " + x.fault(0) + " at " + x.fault(1), -1, 0);
        }
        return x;
    }

    static void fault(String text, int fault, int place) {
        TinTower x = new TinTower();
        due("text \"" + text + "\"", read(x, text), -1);
        due("fault(0) of \"" + text + "\"", x.fault(0), fault);
        due("fault(1) of \"" + text + "\"", x.fault(1), place);
        due("count(0) behind \"" + text + "\"", x.count(0), 0);
    }

    static int letters(String word) {
        int letters = 0;
        for (int i = 0; i < 6; i++) {
            letters = letters << 5 | (i < word.length() ? word.charAt(i) - 'a' + 1 : 0);
        }
        return letters;
    }

    /** Ends the test. */
    static void end(String test) {
        System.out.println(test + ": " + right + " answers as due, " + wrong + " not");
        System.exit(wrong == 0 ? 0 : 1);
    }
}
