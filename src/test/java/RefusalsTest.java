import java.util.Random;

/**
 * Calls at random, with numbers from within and far beyond their bounds: none throws, what is
 * refused changes nothing that can be seen, and silver is kept but where a lot comes or a bag is opened.
 * Its looks take an object far beyond 512 calls, where the document promises nothing more: this class goes on as before.
 */
public final class RefusalsTest {
    private static final int[] EDGES = {Integer.MIN_VALUE, Integer.MIN_VALUE + 1, -1000, -2, -1, 0, 1, 2, 3, 5, 6, 7, 8,
        9, 10, 11, 29, 30, 31, 240, 241, 500, 501, 925, 999, 1000, 1001, 100000, 100001, 1000000, 1000001,
        Integer.MAX_VALUE - 1, Integer.MAX_VALUE};
    private static final String[] TEXTS = {"0 is 12;3 is 5 by weight 100;2 is out", "0 is 1 by weight 9999", "1 is 0",
        "0 is 999 by weight 1", "1 is out", "0 is 1;0", "1 is 12 by weight 70;2 is 3", "x", "2 is 7 by weight 0"};

    private final Random random;
    private final NewSilver x = new NewSilver();
    private String call = "";

    private RefusalsTest(long seed) {
        random = new Random(seed);
    }

    public static void main(String[] args) {
        for (int run = 0; run < 400; run++) {
            new RefusalsTest(run).play();
        }
        Check.end();
    }

    private void play() {
        for (int n = 0; n < 500; n++) {
            String before = seen();
            long all = x.all();
            long answer;
            try {
                answer = anyCall();
            } catch (RuntimeException e) {
                Check.holds(call + " threw " + e, false);
                return;
            }
            boolean refused = answer >= Check.FULL && answer <= Check.NONE;
            if (refused) {
                Check.holds(call + " was refused and changes nothing", seen().equals(before));
            }
            boolean mayChange = call.startsWith("lot") || call.startsWith("open");
            Check.holds(call + " keeps silver", mayChange || x.all() == all);
        }
    }

    /** All that can be asked without changing anything. */
    private String seen() {
        StringBuilder s = new StringBuilder();
        for (int what = 0; what < 8; what++) {
            s.append(x.count(what)).append(' ');
        }
        for (int l = 0; l < x.count(1); l++) {
            for (int what = 0; what < 11; what++) {
                s.append(x.about(l, what)).append(' ');
            }
            s.append(x.paid(l)).append(';');
        }
        for (int m = 0; m < 3; m++) {
            for (int what = 0; what < 6; what++) {
                s.append(x.mint(m, what)).append(' ');
            }
        }
        for (int t = 0; t < 6; t++) {
            s.append(x.credit(t)).append(' ').append(x.force(t, 999)).append(' ').append(x.lack(t, 9999)).append(' ');
        }
        return s.append(x.flow()).append(' ').append(x.sent()).append(' ').append(x.all()).toString();
    }

    private int upTo(int below) {
        return random.nextInt(40) == 0 ? EDGES[random.nextInt(EDGES.length)] : random.nextInt(below);
    }

    private int lot() {
        return upTo(Math.max(1, x.count(1)));
    }

    private long anyCall() {
        int kind = random.nextInt(28);
        return kind < 14 ? firstCalls(kind) : lastCalls(kind);
    }

    private long firstCalls(int kind) {
        int l = lot();
        switch (kind) {
            case 0: call = "sort"; return x.sort(1 + upTo(10), 10 + upTo(100), random.nextBoolean() ? 925 : upTo(1001), 1 + upTo(20));
            case 1: case 2: return anyLot();
            case 3: call = "open " + l; return x.open(l, upTo(1000));
            case 4: call = "about " + l; return x.about(l, upTo(11));
            case 5: call = "today"; return x.today(x.count(3) + upTo(4));
            case 6: call = "feed"; return x.feed(random.nextLong(), upTo(9));
            case 7: case 8: call = "order"; return anyOrder();
            case 9: call = "tell"; return x.tell(upTo(10), upTo(6));
            case 10: call = "force"; return x.force(upTo(6), upTo(99));
            case 11: call = "pass " + l; return x.pass(l, upTo(6), upTo(99));
            case 12: call = "light " + l; return x.light(l, upTo(9), upTo(99), upTo(6));
            default: call = "pay"; return x.pay(upTo(6), 1 + upTo(500));
        }
    }

    private long lastCalls(int kind) {
        int l = lot();
        switch (kind) {
            case 14: call = "paid"; return x.paid(upTo(3));
            case 15: call = "give"; return x.give(upTo(6));
            case 16: call = "lack"; return x.lack(upTo(6), upTo(9999));
            case 17: call = "road"; return x.road(upTo(6), upTo(3), upTo(31));
            case 18: case 19: call = "send " + l; return x.send(l, upTo(3));
            case 20: call = "bring " + l; return x.bring(l, upTo(6));
            case 21: case 22: call = "melt " + l; return x.melt(l);
            case 23: call = "furnace"; return x.furnace(upTo(3), 1 + upTo(9999));
            case 24: call = "refine"; return x.refine(upTo(3));
            case 25: call = "strike"; return x.strike(upTo(3), upTo(3), 1 + upTo(20));
            case 26: call = "drawn " + l; return x.drawn(l, upTo(9), upTo(99), upTo(2));
            default: call = "wish"; return x.wish(upTo(2), upTo(6), upTo(99));
        }
    }

    private int anyLot() {
        int kind = upTo(6);
        int coins = kind == Check.PLATE ? 0 : 1 + upTo(20);
        call = "lot " + kind;
        int fine = kind == Check.PLATE || kind == Check.FALSE ? upTo(1001) : 0;
        return x.lot(kind, upTo(Math.max(1, x.count(0))), coins, coins * 10 + upTo(50), fine, upTo(6));
    }

    private int anyOrder() {
        if (random.nextBoolean()) {
            return x.order();
        }
        // What stood on the tape before would be a fault of this text, too.
        if (x.count(7) > 0) {
            x.order();
        }
        if (x.count(7) == 0) {
            Check.write(x, TEXTS[random.nextInt(TEXTS.length)]);
        }
        call = "count";
        return x.count(2);
    }
}
