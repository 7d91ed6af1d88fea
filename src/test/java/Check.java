import java.nio.charset.StandardCharsets;

/** What the tests share: a count of wrong answers, and ways to make a realm. */
final class Check {
    static final int NONE = NewSilver.NONE, BAD = NewSilver.BAD;
    static final int STATE = NewSilver.STATE, FULL = NewSilver.FULL;
    static final int PLAIN = 0, CLIPPED = 1, BAG = 2, PLATE = 3, NEW = 4, FALSE = 5;
    static final int FAR_DOWN = Integer.MIN_VALUE, FAR_UP = Integer.MAX_VALUE;

    private static int wrong = 0;

    private Check() {
    }

    static void due(String call, long got, long want) {
        if (got != want) {
            wrong++;
            System.out.println(call + " answered " + got + ", due is " + want);
        }
    }

    static void holds(String what, boolean so) {
        if (!so) {
            wrong++;
            System.out.println("does not hold: " + what);
        }
    }

    static void end() {
        System.out.println(wrong == 0 ? "all answers are as due" : wrong + " answers are not as due");
        if (wrong != 0) {
            System.exit(1);
        }
    }

    /** Feeds a text in pieces of eight bytes. */
    static void write(NewSilver x, String text) {
        byte[] bytes = text.getBytes(StandardCharsets.ISO_8859_1);
        for (int i = 0; i < bytes.length; i += 8) {
            long w = 0;
            int n = Math.min(8, bytes.length - i);
            for (int k = 0; k < n; k++) {
                w = w << 8 | bytes[i + k] & 255;
            }
            x.feed(w, n);
        }
    }

    static int order(NewSilver x, String text) {
        write(x, text);
        return x.order();
    }

    /** Sort 0: 80 to 92 grains, the law, 12 pence; sort 1: 40 to 46 grains, 900, 6 pence. */
    static NewSilver withSorts() {
        NewSilver x = new NewSilver();
        x.sort(80, 92, 925, 12);
        x.sort(40, 46, 900, 6);
        return x;
    }
}
