import java.math.BigInteger;
import java.util.ArrayList;
import java.util.List;
import java.util.Random;

/** Promises 14 to 18. */
public final class PaymentsTest {
    public static void main(String[] args) {
        worstFirst();
        equalOnes();
        refused();
        whatIsThere();
        chests();
        credits();
        lack();
        againstSortedList();
        Check.end();
    }

    private static NewSilver withLots() {
        NewSilver x = Check.withSorts();
        x.lot(Check.PLAIN, 0, 10, 860, 0, 0);
        x.lot(Check.CLIPPED, 0, 10, 500, 0, 0);
        x.lot(Check.BAG, 1, 20, 860, 0, 0);
        x.lot(Check.PLATE, 0, 0, 1000, 0, 0);
        x.lot(Check.NEW, 0, 5, 460, 0, 0);
        x.lot(Check.FALSE, 1, 10, 300, 100, 0);
        return x;
    }

    private static void worstFirst() {
        NewSilver x = withLots();
        Check.due("all but a penny", x.pay(0, 479), 5);
        int[] order = {5, 1, 2, 0, 4};
        for (int i = 0; i < order.length; i++) {
            Check.due("paid " + i, x.paid(i), order[i]);
            Check.due("in the chest", x.about(order[i], 9), 1);
            Check.due("still in the town", x.about(order[i], 5), 0);
        }
        Check.due("one beyond", x.paid(5), Check.NONE);
        Check.due("below 0", x.paid(-1), Check.NONE);
        Check.due("credit", x.credit(0), 1);
        Check.due("just enough", withLots().pay(0, 60), 1);
        Check.due("a penny more", withLots().pay(0, 61), 2);
        Check.due("all", withLots().pay(0, 480), 5);
        Check.due("more than all", withLots().pay(0, 481), Check.STATE);
        allThirty();
        withoutWorth();
    }

    private static void allThirty() {
        NewSilver x = Check.withSorts();
        for (int l = 0; l < 30; l++) {
            x.lot(Check.PLAIN, 0, 1, 80, 0, 0);
        }
        Check.due("more than thirty lots", x.pay(0, 361), Check.STATE);
        Check.due("thirty lots", x.pay(0, 360), 30);
        Check.due("the last of them", x.paid(29), 29);
        Check.due("in chests", x.count(6), 30);
    }

    private static void withoutWorth() {
        NewSilver x = Check.withSorts();
        x.lot(Check.PLATE, 0, 0, 10, 0, 0);
        x.lot(Check.PLAIN, 0, 1, 80, 0, 0);
        Check.due("plate of copper does not pay", x.pay(0, 1), 1);
        Check.due("the coin does", x.paid(0), 1);
    }

    private static void equalOnes() {
        NewSilver x = Check.withSorts();
        x.sort(10, 20, 0, 3);
        x.lot(Check.PLAIN, 0, 2, 170, 0, 0);
        x.lot(Check.PLAIN, 0, 4, 340, 0, 0);
        x.lot(Check.PLAIN, 0, 2, 170, 0, 0);
        x.lot(Check.PLAIN, 2, 1, 20, 0, 0);
        x.lot(Check.PLAIN, 2, 1, 10, 0, 0);
        Check.due("all", x.pay(0, 100), 5);
        int[] order = {3, 4, 0, 1, 2};
        for (int i = 0; i < order.length; i++) {
            Check.due("paid " + i, x.paid(i), order[i]);
        }
    }

    private static void refused() {
        NewSilver x = withLots();
        Check.due("a payment", x.pay(0, 1), 1);
        Check.due("no such town", x.pay(6, 1), Check.NONE);
        Check.due("no such town, bad", x.pay(-1, 0), Check.NONE);
        Check.due("nothing", x.pay(0, 0), Check.BAD);
        Check.due("too much", x.pay(0, 1000001), Check.BAD);
        Check.due("less than nothing", x.pay(0, Check.FAR_DOWN), Check.BAD);
        Check.due("as much as may be told", x.pay(0, 1000000), Check.STATE);
        Check.due("a town without lots", x.pay(1, 1), Check.STATE);
        Check.due("the latest payment stays", x.paid(0), 5);
        Check.due("it has one", x.paid(1), Check.NONE);
        Check.due("credit", x.credit(0), 59);
        Check.due("in chests", x.count(6), 1);
    }

    private static void whatIsThere() {
        NewSilver x = withLots();
        x.send(0, 0);
        x.send(1, 0);
        Check.due("what is sent does not pay", x.pay(0, 241), Check.STATE);
        x.today(5);
        x.bring(0, 0);
        Check.due("what is at a mint does not pay", x.pay(0, 241), Check.STATE);
        x.today(9);
        Check.due("nor what is on the road", x.pay(0, 241), Check.STATE);
        Check.due("nor is it there for wages", x.lack(0, 1000), 760);
        x.today(10);
        Check.due("what has come pays", x.pay(0, 241), 3);
        ordersOfToday();
    }

    private static void ordersOfToday() {
        NewSilver x = withLots();
        Check.order(x, "0 is out;1 is 6 by weight 43");
        Check.order(x, "0 is 1");
        x.tell(0, 0);
        x.today(1);
        x.tell(1, 1);
        Check.due("by weight; out", x.lack(0, 1000), 1000 - 120 - 41);
        Check.due("out does not pay", x.pay(0, 162), Check.STATE);
        Check.due("by weight", x.pay(0, 161), 2);
        Check.due("the false one first", x.paid(0), 5);
        Check.due("credit", x.credit(0), 0);
    }

    private static void chests() {
        NewSilver x = withLots();
        x.lot(Check.PLAIN, 0, 1, 80, 0, 1);
        x.pay(0, 100);
        x.pay(1, 12);
        Check.due("in chests", x.count(6), 3);
        Check.due("not sent from the chest", x.send(5, 0), Check.STATE);
        Check.due("not paid with again", x.pay(0, 301), Check.STATE);
        Check.due("given out", x.give(0), 2);
        Check.due("none is left", x.give(0), 0);
        Check.due("the other chest stays", x.count(6), 1);
        Check.due("no more in the chest", x.about(5, 9), 0);
        Check.due("in the other chest", x.about(6, 9), 1);
        Check.due("credit stays", x.credit(0), 80);
        Check.due("the latest payment stays", x.paid(0), 6);
        Check.due("paid with again", x.pay(0, 100), 2);
        Check.due("sent when given out", x.give(1) == 1 ? x.send(6, 0) : 0, 5);
        Check.due("no such town", x.give(6), Check.NONE);
        Check.due("no such town", x.give(-1), Check.NONE);
    }

    private static void credits() {
        NewSilver x = withLots();
        x.pay(0, 100);
        x.pay(0, 100);
        x.lot(Check.PLAIN, 0, 1, 80, 0, 3);
        x.pay(3, 5);
        Check.due("of all payments", x.credit(0), 100);
        Check.due("of its town", x.credit(3), 7);
        Check.due("of another", x.credit(1), 0);
        Check.due("no such town", x.credit(6), Check.NONE);
        Check.due("no such town", x.credit(-1), Check.NONE);
        NewSilver y = new NewSilver();
        y.sort(500, 500, 1000, 240);
        Check.order(y, "0 is 999 by weight 1");
        y.tell(0, 0);
        for (int l = 0; l < 6; l++) {
            y.lot(Check.NEW, 0, 1000, 500000, 0, 0);
            y.pay(0, 1);
        }
        Check.due("a great credit", y.credit(0), 6 * 499499999L);
        y.give(0);
        Check.due("no lack with much", y.lack(0, 100000), 0);
    }

    private static void lack() {
        NewSilver x = withLots();
        Check.due("lack", x.lack(0, 1000), 520);
        Check.due("just enough", x.lack(0, 480), 0);
        Check.due("a penny", x.lack(0, 481), 1);
        Check.due("more than enough", x.lack(0, 0), 0);
        Check.due("nothing there", x.lack(2, 100000), 100000);
        x.pay(0, 60);
        Check.due("what is in the chest passes no more", x.lack(0, 1000), 580);
        Check.due("no such town", x.lack(6, -1), Check.NONE);
        Check.due("no such town", x.lack(-1, 1), Check.NONE);
        Check.due("below 0", x.lack(0, -1), Check.BAD);
        Check.due("too much", x.lack(0, 100001), Check.BAD);
    }

    private static boolean isWorse(NewSilver x, int a, int b) {
        BigInteger left = BigInteger.valueOf(x.silver(a)).multiply(BigInteger.valueOf(x.pass(b, 0, 0)));
        BigInteger right = BigInteger.valueOf(x.silver(b)).multiply(BigInteger.valueOf(x.pass(a, 0, 0)));
        int c = left.compareTo(right);
        return c < 0 || c == 0 && a < b;
    }

    private static NewSilver atRandom(Random random) {
        NewSilver x = new NewSilver();
        x.sort(1, 500, 1000, 240);
        x.sort(2, 9, 500, 1);
        x.sort(3, 100, 925, 12);
        Check.order(x, "0 is 999 by weight 1;1 is 3 by weight 20");
        if (random.nextBoolean()) {
            x.tell(0, 0);
        }
        for (int l = 0; l < 30; l++) {
            int coins = 1 + random.nextInt(random.nextBoolean() ? 4 : 1000);
            int sort = random.nextInt(3);
            int[] least = {1, 2, 3};
            int[] most = {500, 9, 100};
            int weight = coins * (least[sort] + random.nextInt(most[sort] - least[sort] + 1));
            x.lot(random.nextInt(3), sort, coins, weight, 0, 0);
        }
        return x;
    }

    private static void againstSortedList() {
        Random random = new Random(3);
        for (int round = 0; round < 500; round++) {
            NewSilver x = atRandom(random);
            List<Integer> list = new ArrayList<>();
            long all = 0;
            for (int l = 0; l < x.count(1); l++) {
                if (x.pass(l, 0, 0) > 0) {
                    int at = 0;
                    while (at < list.size() && isWorse(x, list.get(at), l)) {
                        at++;
                    }
                    list.add(at, l);
                    all += x.pass(l, 0, 0);
                }
            }
            int amount = 1 + random.nextInt((int) Math.min(1000000, all));
            long sum = 0;
            int many = 0;
            while (sum < amount) {
                sum += x.pass(list.get(many++), 0, 0);
            }
            Check.due("lots paid", x.pay(0, amount), many);
            for (int i = 0; i < many; i++) {
                Check.due("paid " + i, x.paid(i), list.get(i));
            }
            Check.due("credit", x.credit(0), sum - amount);
        }
    }
}
