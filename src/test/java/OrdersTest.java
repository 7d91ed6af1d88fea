import java.util.Random;

/** Promises 8 to 13. */
public final class OrdersTest {
    public static void main(String[] args) {
        bytesFed();
        feedRefused();
        faults();
        faultsAgainstPattern();
        bytesOfEarlierTapes();
        ordersFull();
        faultBeforeTheLast();
        told();
        inForce();
        passing();
        passingOfKinds();
        lightLots();
        Check.end();
    }

    private static void bytesFed() {
        NewSilver x = new NewSilver();
        Check.due("the lowest bytes", x.feed(0x7777_3020_6973L, 4), 4);
        Check.due("a byte more", x.feed(0xff20L, 1), 5);
        Check.due("two more", x.feed('1' << 8 | '2', 2), 7);
        Check.due("its bytes", x.count(7), 7);
        Check.due("'0 is 12'", x.order(), 0);
        Check.due("empty then", x.count(7), 0);
        Check.due("eight with the sign bit", x.feed(-1L, 8), 8);
        Check.due("no digit", x.order(), -10);
        Check.due("empty then", x.count(7), 0);
    }

    private static void feedRefused() {
        NewSilver x = new NewSilver();
        for (int n : new int[] {0, -1, 9, Check.FAR_UP, Check.FAR_DOWN}) {
            Check.due("feed " + n, x.feed(0L, n), Check.BAD);
        }
        for (int i = 1; i <= 19; i++) {
            Check.due("feed", x.feed(0L, 8), 8 * i);
        }
        Check.due("feed", x.feed(0L, 7), 159);
        Check.due("beyond", x.feed(0L, 2), Check.FULL);
        Check.due("bad beyond", x.feed(0L, 9), Check.BAD);
        Check.due("bytes", x.count(7), 159);
        Check.due("the last byte", x.feed(0L, 1), 160);
        Check.due("beyond", x.feed(0L, 1), Check.FULL);
        Check.due("bytes", x.count(7), 160);
    }

    private static void fault(String text, int place) {
        NewSilver x = new NewSilver();
        Check.due("order '" + text + "'", Check.order(x, text), place < 0 ? 0 : -10 - place);
        Check.due("the tape is empty", x.count(7), 0);
        Check.due("orders", x.count(2), place < 0 ? 1 : 0);
    }

    private static void faults() {
        for (String good : new String[] {"0 is 12;3 is 5 by weight 100;2 is out", "7 is 0", "7 is 000", "0 is 999",
            "0 is out", "0 is 1 by weight 1", "0 is 1 by weight 9999", "0 is 1;1 is 1;2 is 1;3 is 1;4 is 1;5 is 1",
            "7 is 999 by weight 9999;6 is 999 by weight 9999;5 is 999 by weight 9999;4 is 999 by weight 9999;"
            + "3 is 999 by weight 9999;2 is 999 by weight 9999"}) {
            fault(good, -1);
        }
        fault("", 0);
        fault("8 is 1", 0);
        fault(" 0 is 1", 0);
        fault("0", 1);
        fault("0  is 1", 2);
        fault("0 is", 4);
        fault("0 is ", 5);
        fault("0 is  1", 5);
        fault("0 is 1234", 8);
        fault("0 is ou", 7);
        fault("0 is our", 7);
        fault("0 is oux", 7);
        fault("0 is outs", 8);
        fault("0 is out ", 8);
        fault("0 is out by weight 5", 8);
        fault("0 is 1 ", 7);
        fault("0 is 1;", 7);
        fault("0 is 1;;", 7);
        fault("0 is 1; 1 is 2", 7);
        fault("0 is 1;0", 7);
        fault("0 is 1;0 is 2", 7);
        fault("0 is out;1 is 2;0 is 2", 16);
        fault("0 is 1 by weight", 16);
        fault("0 is 1 by weight ", 17);
        fault("0 is 1 by weight 0", 17);
        fault("0 is 1 by weight 012", 17);
        fault("0 is 1 by weight 12345", 21);
        fault("0 is 1 by weight 12 ", 19);
        fault("0 is 1 by  weight 12", 10);
        fault("0 is 1;1 is 1;2 is 1;3 is 1;4 is 1;5 is 1;", 41);
        fault("0 is 1;1 is 1;2 is 1;3 is 1;4 is 1;5 is 1;6 is 1", 41);
        fault("0 is 1\u00b1", 6);
    }

    private static void faultsAgainstPattern() {
        Random random = new Random(7);
        String[] parts = {"0", "1", "2", "7", "8", " is ", " is ", " is ", "out", "12", "5", ";", ";", ";",
            " by weight ", " by weight ", "90", "0", " ", "o", "b", "3 is 5", "4 is out", "5 is 7 by weight 1", "6 is 0",
            "0 is 1;", "1 is out;", "2 is 007;"};
        for (int round = 0; round < 20000; round++) {
            StringBuilder text = new StringBuilder();
            int many = random.nextInt(14);
            for (int i = 0; i < many; i++) {
                text.append(parts[random.nextInt(parts.length)]);
            }
            if (text.length() > 0 && text.length() <= 160) {
                fault(text.toString(), FaultByPattern.of(text.toString()));
            }
        }
    }

    /** What stood on the tape before is not read behind the end of a shorter one. */
    private static void bytesOfEarlierTapes() {
        String text = "0 is 123 by weight 4567;1 is out;2 is 5;3 is 6";
        for (int n = 1; n < text.length(); n++) {
            NewSilver x = new NewSilver();
            Check.order(x, text);
            String begun = text.substring(0, n);
            int fault = FaultByPattern.of(begun);
            Check.due("order '" + begun + "' after a longer one", Check.order(x, begun), fault < 0 ? 1 : -10 - fault);
        }
    }

    private static void ordersFull() {
        NewSilver x = new NewSilver();
        for (int o = 0; o < 10; o++) {
            Check.due("order " + o, Check.order(x, "0 is " + o), o);
        }
        Check.due("an empty tape", x.order(), Check.FULL);
        Check.due("the tape is as it was", x.count(7), 0);
        Check.due("an order more", Check.order(x, "0 is 5"), Check.FULL);
        Check.due("the tape is as it was", x.count(7), 6);
        Check.due("with a fault", Check.order(x, "x"), Check.FULL);
        Check.due("the tape is as it was", x.count(7), 7);
        Check.due("asked again", x.order(), Check.FULL);
        Check.due("bytes come behind it", x.feed('9', 1), 8);
        Check.due("orders", x.count(2), 10);
    }

    /** A fault takes no number, so the tenth order still has room after one. */
    private static void faultBeforeTheLast() {
        NewSilver x = new NewSilver();
        for (int o = 0; o < 9; o++) {
            Check.due("order " + o, Check.order(x, "0 is " + o), o);
        }
        Check.due("with a fault", Check.order(x, "0 is x"), -15);
        Check.due("the tape is empty", x.count(7), 0);
        Check.due("the tenth", Check.order(x, "0 is 9"), 9);
        Check.due("one more", Check.order(x, "0 is 9"), Check.FULL);
    }

    private static void told() {
        NewSilver x = new NewSilver();
        Check.order(x, "0 is 1");
        Check.due("told", x.tell(0, 0), 1);
        x.today(4);
        Check.due("told again", x.tell(0, 0), 0);
        Check.due("told elsewhere", x.tell(0, 5), 1);
        Check.due("the first day stays", x.force(0, 0), 0);
        Check.due("elsewhere not yet", x.force(5, 3), Check.NONE);
        Check.due("elsewhere", x.force(5, 4), 0);
        Check.due("no such order", x.tell(1, 0), Check.NONE);
        Check.due("no such order", x.tell(-1, 0), Check.NONE);
        Check.due("no such town", x.tell(0, 6), Check.NONE);
        Check.due("no such town", x.tell(0, -1), Check.NONE);
    }

    private static void inForce() {
        NewSilver x = new NewSilver();
        for (int o = 0; o < 4; o++) {
            Check.order(x, "0 is " + o);
        }
        x.today(2);
        x.tell(3, 1);
        x.tell(0, 1);
        x.today(6);
        x.tell(1, 1);
        x.today(8);
        Check.due("before", x.force(1, 1), Check.NONE);
        Check.due("of one day the greatest", x.force(1, 2), 3);
        Check.due("till the next", x.force(1, 5), 3);
        Check.due("the latest", x.force(1, 6), 1);
        Check.due("a day to come", x.force(1, 5000), 1);
        Check.due("a day below 0", x.force(1, -1), Check.NONE);
        Check.due("another town", x.force(0, 8), Check.NONE);
        Check.due("no such town", x.force(6, 8), Check.NONE);
        Check.due("no such town", x.force(-1, 8), Check.NONE);
    }

    private static void passing() {
        NewSilver x = Check.withSorts();
        x.lot(Check.PLAIN, 0, 10, 860, 0, 0);
        x.lot(Check.PLAIN, 1, 10, 430, 0, 0);
        Check.order(x, "0 is 11");
        Check.order(x, "0 is 10 by weight 90;1 is out");
        Check.order(x, "0 is 0");
        x.tell(0, 0);
        x.today(3);
        x.tell(1, 0);
        x.today(5);
        x.tell(2, 0);
        Check.due("by tale", x.pass(0, 0, 2), 110);
        Check.due("without a clause", x.pass(1, 0, 2), 60);
        Check.due("by weight, cut", x.pass(0, 0, 3), 95);
        Check.due("out", x.pass(1, 0, 4), 0);
        Check.due("for 0", x.pass(0, 0, 5), 0);
        Check.due("without an order", x.pass(0, 1, 5), 120);
        Check.due("a day to come", x.pass(0, 0, 2000), 0);
        Check.due("no such lot", x.pass(2, 0, 0), Check.NONE);
        Check.due("no such lot", x.pass(-1, 0, 0), Check.NONE);
        Check.due("no such town", x.pass(0, 6, 0), Check.NONE);
        Check.due("no such town", x.pass(0, -1, -1), Check.NONE);
        Check.due("below 0", x.pass(0, 0, -1), Check.BAD);
        mostOfAll();
    }

    private static void mostOfAll() {
        NewSilver x = new NewSilver();
        x.sort(500, 500, 1000, 240);
        x.lot(Check.NEW, 0, 1000, 500000, 0, 0);
        Check.order(x, "0 is 999 by weight 1");
        Check.due("by name value", x.pass(0, 0, 0), 240000);
        x.tell(0, 0);
        Check.due("by weight", x.pass(0, 0, 0), 499500000);
    }

    private static void passingOfKinds() {
        NewSilver x = Check.withSorts();
        x.lot(Check.CLIPPED, 0, 10, 500, 0, 0);
        x.lot(Check.BAG, 0, 10, 860, 0, 0);
        x.lot(Check.PLATE, 0, 0, 1000, 960, 0);
        x.lot(Check.NEW, 0, 10, 920, 0, 0);
        x.lot(Check.FALSE, 0, 10, 300, 100, 0);
        int[] byTale = {70, 70, 0, 70, 70};
        int[] byWeight = {35, 60, 0, 64, 21};
        Check.order(x, "0 is 7");
        Check.order(x, "0 is 7 by weight 100");
        x.tell(0, 0);
        x.tell(1, 1);
        for (int l = 0; l < 5; l++) {
            Check.due("by tale, kind of lot " + l, x.pass(l, 0, 0), byTale[l]);
            Check.due("by weight, kind of lot " + l, x.pass(l, 1, 0), byWeight[l]);
            Check.due("by name, kind of lot " + l, x.pass(l, 2, 0), l == 2 ? 0 : 120);
        }
        x.send(4, 0);
        x.today(5);
        x.melt(4);
        Check.due("found false", x.pass(4, 0, 0), 0);
        Check.due("found false, without an order", x.pass(4, 2, 0), 0);
        Check.due("paid", x.pay(0, 1), 1);
        int l = x.paid(0);
        Check.due("in the chest", x.pass(l, 0, 5), 0);
        Check.due("in the chest of another town", x.pass(l, 2, 5), 120);
        x.give(0);
        Check.due("given out", x.pass(l, 0, 5), 70);
    }

    private static void lightLots() {
        NewSilver x = Check.withSorts();
        x.lot(Check.PLAIN, 0, 10, 860, 0, 0);
        x.lot(Check.CLIPPED, 0, 10, 860, 0, 0);
        x.lot(Check.PLATE, 0, 0, 860, 0, 0);
        x.lot(Check.PLAIN, 1, 10, 430, 0, 0);
        Check.order(x, "0 is 10 by weight 87;1 is 5");
        Check.order(x, "0 is out");
        Check.due("without an order", x.light(0, 10, 800, 0), 0);
        x.tell(0, 0);
        Check.due("the most just as much", x.light(0, 5, 410, 0), 0);
        Check.due("the most a grain less", x.light(0, 5, 409, 0), 1);
        Check.due("none drawn", x.light(0, 0, 0, 0), 0);
        Check.due("all drawn", x.light(0, 10, 869, 0), 1);
        Check.due("all drawn", x.light(0, 10, 870, 0), 0);
        Check.due("clipped", x.light(1, 1, 1, 0), 1);
        Check.due("not by weight", x.light(3, 10, 400, 0), 0);
        Check.due("another town", x.light(0, 5, 409, 1), 0);
        Check.due("no such lot", x.light(4, 0, 0, 0), Check.NONE);
        Check.due("no such lot", x.light(-1, 0, 0, 0), Check.NONE);
        Check.due("no such town", x.light(0, 0, 0, 6), Check.NONE);
        Check.due("no such town", x.light(0, -1, 0, -1), Check.NONE);
        Check.due("too many", x.light(0, 11, 900, 0), Check.BAD);
        Check.due("too few", x.light(0, -1, 0, 0), Check.BAD);
        Check.due("too light", x.light(0, 5, 399, 0), Check.BAD);
        Check.due("too heavy", x.light(0, 5, 461, 0), Check.BAD);
        Check.due("no coins", x.light(2, 0, 0, 0), Check.BAD);
        Check.due("bad without an order", x.light(2, 0, 0, 1), Check.BAD);
        x.today(1);
        x.tell(1, 0);
        Check.due("out", x.light(0, 5, 409, 0), 0);
    }
}
