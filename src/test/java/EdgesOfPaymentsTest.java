import java.util.function.Supplier;

/** The boundary cases of promises 14 to 18, each beside the words that name it. */
public final class EdgesOfPaymentsTest {
    public static void main(String[] args) {
        amounts();
        firstRefusalOfPaying();
        allTogether();
        notLessThanTheAmount();
        leastFractions();
        equalFractions();
        moreThanNothing();
        lotsThatAreThere();
        thirtyLots();
        latestPayment();
        paymentsThatShrink();
        creditOfTowns();
        greatCredit();
        chestsGivenOut();
        emptyChests();
        wages();
        lackJustNone();
        lackOfToday();
        Check.end();
    }

    /** Five lots that pass for 200000 each: a million in all. */
    private static NewSilver rich() {
        NewSilver x = new NewSilver();
        x.sort(10, 10, 925, 200);
        x.sort(1, 1, 0, 1);
        for (int l = 0; l < 5; l++) {
            x.lot(Check.PLAIN, 0, 1000, 10000, 0, 0);
        }
        return x;
    }

    /** Lots 0, 1, 2 that pass for 10, 20, 30 and are paid with in the order 2, 0, 1. */
    private static NewSilver threeLots() {
        NewSilver x = new NewSilver();
        x.sort(10, 20, 100, 10);
        x.lot(Check.PLAIN, 0, 1, 15, 0, 0);
        x.lot(Check.PLAIN, 0, 2, 40, 0, 0);
        x.lot(Check.PLAIN, 0, 3, 30, 0, 0);
        return x;
    }

    /** Promise 14: "BAD: amount not 1 .. 1000000". */
    private static void amounts() {
        Edges.goes("amount", EdgesOfPaymentsTest::rich, (x, n) -> x.pay(0, n), 1, 1000000, Check.BAD);
        Edges.goes("town that pays", EdgesOfPaymentsTest::inEachTown, (x, n) -> x.pay(n, 1), 0, 5, Check.NONE);
        NewSilver x = rich();
        Check.due("a million", x.pay(0, 1000000), 5);
        Check.due("nothing is over", x.credit(0), 0);
        NewSilver y = rich();
        Check.due("a penny", y.pay(0, 1), 1);
        Check.due("all but it is over", y.credit(0), 199999);
    }

    private static NewSilver inEachTown() {
        NewSilver x = threeLots();
        for (int t = 1; t < 6; t++) {
            x.lot(Check.PLAIN, 0, 1, 10, 0, t);
        }
        return x;
    }

    /** Promise 14: "NONE; BAD; STATE", of several the first one told. */
    private static void firstRefusalOfPaying() {
        Supplier<NewSilver> realm = Realms::busy;
        Edges.refused("no town, bad", realm, x -> x.pay(6, 0), Check.NONE);
        Edges.refused("no town, bad", realm, x -> x.pay(-1, 1000001), Check.NONE);
        Edges.refused("no town", realm, x -> x.pay(6, 1), Check.NONE);
        Edges.refused("bad, and nothing there", realm, x -> x.pay(5, 0), Check.BAD);
        Edges.refused("bad, and less there", realm, x -> x.pay(0, 1000001), Check.BAD);
        Edges.refused("nothing there", realm, x -> x.pay(5, 1), Check.STATE);
        Edges.refused("less there", realm, x -> x.pay(0, 1000000), Check.STATE);
    }

    /** Promise 14: "STATE: all together are less"; "If all together are less nothing is paid." */
    private static void allTogether() {
        Supplier<NewSilver> pennyLess = () -> {
            NewSilver x = rich();
            x.pay(0, 1);
            x.give(0);
            x.lot(Check.PLAIN, 1, 199, 199, 0, 1);
            return x;
        };
        Edges.refused("a penny less in town 1", pennyLess, x -> x.pay(1, 200), Check.STATE);
        Check.due("just as much in town 1", pennyLess.get().pay(1, 199), 1);
        Edges.refused("a penny less of three", EdgesOfPaymentsTest::threeLots, x -> x.pay(0, 61), Check.STATE);
        Check.due("just as much of three", threeLots().pay(0, 60), 3);
        NewSilver x = new NewSilver();
        x.sort(1, 1, 0, 200);
        x.sort(1, 1, 0, 1);
        for (int l = 0; l < 4; l++) {
            x.lot(Check.PLAIN, 0, 1000, 1000, 0, 0);
        }
        x.lot(Check.PLAIN, 0, 999, 999, 0, 0);
        x.lot(Check.PLAIN, 1, 199, 199, 0, 0);
        Check.due("a penny less than a million", x.pay(0, 1000000), Check.STATE);
        Check.due("nothing is in a chest", x.count(6), 0);
        x.lot(Check.PLAIN, 1, 1, 1, 0, 0);
        Check.due("a million", x.pay(0, 1000000), 7);
    }

    /** "whole LOTS, one after the other, till what they PASS for together is not less than the amount". */
    private static void notLessThanTheAmount() {
        int[][] dues = {{1, 1, 29}, {29, 1, 1}, {30, 1, 0}, {31, 2, 9}, {40, 2, 0}, {41, 3, 19}, {59, 3, 1}, {60, 3, 0}};
        int[] order = {2, 0, 1};
        for (int[] due : dues) {
            NewSilver x = threeLots();
            Check.due("lots for " + due[0], x.pay(0, due[0]), due[1]);
            Check.due("credit for " + due[0], x.credit(0), due[2]);
            Check.due("in the chest for " + due[0], x.count(6), due[1]);
            for (int i = 0; i < 3; i++) {
                Check.due("paid " + i + " for " + due[0], x.paid(i), i < due[1] ? order[i] : Check.NONE);
                Check.due("chest of " + order[i], x.about(order[i], 9), i < due[1] ? 1 : 0);
            }
        }
    }

    /** "the one first whose SILVER by what it PASSES for is least (as fractions ..)": not as whole numbers. */
    private static void leastFractions() {
        NewSilver x = new NewSilver();
        x.sort(1, 500, 1000, 1);
        x.tell(Check.order(x, "0 is 999 by weight 2"), 0);
        // Cut by half a penny the lighter one passes for less by its silver, by some eight parts in 10 to the 15.
        x.lot(Check.FALSE, 0, 1000, 499997, 1000, 0);
        x.lot(Check.FALSE, 0, 1000, 499999, 1000, 0);
        Check.due("the greater lot is worse", x.pay(0, 1) == 1 ? x.paid(0) : -9, 1);
        NewSilver y = new NewSilver();
        y.sort(1, 500, 1, 240);
        y.sort(1, 500, 1, 239);
        y.lot(Check.PLAIN, 1, 1, 1, 0, 0);
        y.lot(Check.PLAIN, 0, 1, 1, 0, 0);
        Check.due("far below one, too", y.pay(0, 1) == 1 ? y.paid(0) : -9, 1);
        NewSilver z = new NewSilver();
        z.sort(500, 500, 1000, 1);
        z.sort(499, 500, 1000, 1);
        z.lot(Check.PLAIN, 0, 1000, 500000, 0, 0);
        z.lot(Check.PLAIN, 1, 1000, 499999, 0, 0);
        Check.due("a grain in all", z.pay(0, 1) == 1 ? z.paid(0) : -9, 1);
    }

    /** "of several the least number". */
    private static void equalFractions() {
        NewSilver x = new NewSilver();
        x.sort(10, 20, 300, 7);
        x.sort(10, 20, 0, 1);
        x.sort(10, 20, 600, 14);
        x.lot(Check.PLAIN, 0, 3, 45, 0, 0);
        x.lot(Check.PLAIN, 1, 5, 50, 0, 0);
        x.lot(Check.PLAIN, 2, 1, 15, 0, 0);
        x.lot(Check.PLAIN, 1, 1, 20, 0, 0);
        x.lot(Check.CLIPPED, 0, 1, 15, 0, 0);
        Check.due("all", x.pay(0, 21 + 5 + 14 + 1 + 7), 5);
        int[] order = {1, 3, 0, 2, 4};
        for (int i = 0; i < order.length; i++) {
            Check.due("paid " + i, x.paid(i), order[i]);
        }
    }

    /** "of LOTS there that PASS for more than nothing": silver of nothing would be the least of all fractions. */
    private static void moreThanNothing() {
        NewSilver x = Realms.threeSorts();
        x.lot(Check.PLATE, 0, 0, 1, 0, 0);
        x.lot(Check.PLAIN, 1, 1, 40, 0, 0);
        x.lot(Check.CLIPPED, 2, 1, 1, 0, 0);
        x.lot(Check.CLIPPED, 2, 1, 10, 0, 0);
        x.lot(Check.FALSE, 0, 1, 1, 0, 0);
        x.tell(Check.order(x, "1 is out;2 is 1 by weight 10;0 is 000"), 0);
        Check.due("only one passes", x.pay(0, 2), Check.STATE);
        Check.due("by just one", x.pay(0, 1), 1);
        Check.due("that one", x.paid(0), 3);
        Check.due("no other is left", x.pay(0, 1), Check.STATE);
    }

    /** What is on a road till today is there today; what is in the chest, found false or melted pays no more. */
    private static void lotsThatAreThere() {
        NewSilver x = Realms.busy();
        x.today(14);
        Check.due("the day before it comes", x.pay(1, 1), Check.STATE);
        x.today(15);
        Check.due("the day on which it comes", x.pay(1, 18), 1);
        Check.due("that lot", x.paid(0), Realms.TO_TOWN);
        Check.due("not again", x.pay(1, 1), Check.STATE);
        Check.due("a chest's lot", x.pay(3, 1), Check.STATE);
        Check.due("a false one", x.pay(2, 36), 1);
        x.bring(Realms.FOUND_FALSE, 5);
        x.today(20);
        Check.due("a found one in its town", x.pay(5, 1), Check.STATE);
        Check.due("a found one is there", x.about(Realms.FOUND_FALSE, 5), 5);
    }

    private static void thirtyLots() {
        NewSilver x = new NewSilver();
        x.sort(1, 30, 1000, 1);
        for (int l = 0; l < 30; l++) {
            x.lot(Check.PLAIN, 0, 1, 30 - l, 0, 0);
        }
        Check.due("a penny more than thirty lots", x.pay(0, 31), Check.STATE);
        Check.due("thirty lots", x.pay(0, 30), 30);
        for (int i = 0; i < 30; i++) {
            Check.due("paid " + i, x.paid(i), 29 - i);
        }
        Check.due("no thirty-first", x.paid(30), Check.NONE);
        Check.due("in the chest", x.count(6), 30);
        Check.due("none is left", x.pay(0, 1), Check.STATE);
        Check.due("given out", x.give(0), 30);
        Check.due("paid with again", x.pay(0, 30), 30);
    }

    /** Promise 15: "The i-th LOT of the latest payment. NONE." */
    private static void latestPayment() {
        Edges.goes("i of busy", Realms::busy, (x, n) -> x.paid(n), 0, 0, Check.NONE);
        Supplier<NewSilver> three = () -> {
            NewSilver x = threeLots();
            x.pay(0, 60);
            return x;
        };
        Edges.goes("i of three", three, (x, n) -> x.paid(n), 0, 2, Check.NONE);
        Edges.ends("i of none", EdgesOfPaymentsTest::threeLots, (x, n) -> x.paid(n), 0, -1, Check.NONE);
        Edges.refused("0 of none", EdgesOfPaymentsTest::threeLots, x -> x.paid(0), Check.NONE);
        NewSilver refused = threeLots();
        refused.pay(0, 61);
        Check.due("a refused one is no payment", refused.paid(0), Check.NONE);
    }

    private static void paymentsThatShrink() {
        NewSilver x = inEachTown();
        x.pay(0, 60);
        Check.due("the third", x.paid(2), 1);
        x.pay(0, 1);
        Check.due("after a refused one", x.paid(2), 1);
        x.give(0);
        Check.due("after they are given out", x.paid(2), 1);
        Check.due("a payment of another town", x.pay(4, 1), 1);
        Check.due("its lot", x.paid(0), 6);
        Check.due("no second one", x.paid(1), Check.NONE);
        Check.due("no third one", x.paid(2), Check.NONE);
    }

    /** Promise 16: "CREDIT of a TOWN (of all payments). -1: NONE." */
    private static void creditOfTowns() {
        Edges.goes("credit of town", Realms::busy, (x, n) -> x.credit(n), 0, 5, -1);
        NewSilver x = inEachTown();
        for (int t = 0; t < 6; t++) {
            Check.due("before any payment", x.credit(t), 0);
        }
        Check.due("just as much", x.pay(0, 30), 1);
        Check.due("nothing is over", x.credit(0), 0);
        Check.due("a penny over", x.pay(0, 9), 1);
        Check.due("a penny", x.credit(0), 1);
        Check.due("all but a penny over", x.pay(0, 1), 1);
        Check.due("of all payments", x.credit(0), 20);
        x.pay(5, 3);
        Check.due("of another town", x.credit(5), 7);
        x.give(0);
        x.pay(0, 100);
        Check.due("given out, or refused, it stays", x.credit(0), 20);
        x.pay(0, 60);
        Check.due("nothing more is over", x.credit(0), 20);
    }

    private static void greatCredit() {
        NewSilver x = new NewSilver();
        x.sort(500, 500, 1000, 240);
        for (int l = 0; l < 30; l++) {
            x.lot(Check.NEW, 0, 1000, 500000, 0, 0);
        }
        x.tell(Check.order(x, "0 is 999 by weight 1"), 0);
        for (int round = 1; round <= 3; round++) {
            for (int l = 0; l < 30; l++) {
                Check.due("one great lot", x.pay(0, 1), 1);
            }
            Check.due("more than an int holds", x.credit(0), round * 30 * 499499999L);
            x.give(0);
        }
        Check.due("a million is little", x.pay(0, 1000000), 1);
    }

    /** Promise 17: "LOTS of THE CHEST of a TOWN are given out again: how many. NONE." */
    private static void chestsGivenOut() {
        Edges.goes("chest of town", Realms::busy, (x, n) -> x.give(n), 0, 5, Check.NONE);
        NewSilver x = inEachTown();
        for (int t = 0; t < 6; t++) {
            x.pay(t, 10);
        }
        x.pay(0, 30);
        Check.due("in chests", x.count(6), 8);
        Check.due("of the first town", x.give(0), 3);
        Check.due("in chests", x.count(6), 5);
        Check.due("of the last town", x.give(5), 1);
        for (int l = 0; l < 8; l++) {
            Check.due("in the chest, lot " + l, x.about(l, 9), l >= 3 && l < 7 ? 1 : 0);
            Check.due("its town, lot " + l, x.about(l, 5), l < 3 ? 0 : l - 2);
        }
        Check.due("paid with again", x.pay(0, 60), 3);
        Check.due("sent again", x.send(7, 0), 5);
    }

    private static void emptyChests() {
        NewSilver x = Realms.busy();
        for (int t = 0; t < 6; t++) {
            Check.due("of town " + t, x.give(t), t == 3 ? 1 : 0);
            Check.due("of town " + t + " again", x.give(t), 0);
        }
        Check.due("in chests", x.count(6), 0);
    }

    /** Promise 18: "its wages (0 .. 100000)"; "NONE; BAD". */
    private static void wages() {
        Edges.goes("wages", Realms::busy, (x, n) -> x.lack(0, n), 0, 100000, Check.BAD);
        Edges.goes("town of wages", Realms::busy, (x, n) -> x.lack(n, 1), 0, 5, Check.NONE);
        Edges.refused("no town, bad", Realms::busy, x -> x.lack(6, -1), Check.NONE);
        Edges.refused("no town, bad", Realms::busy, x -> x.lack(-1, 100001), Check.NONE);
        NewSilver x = new NewSilver();
        Check.due("the least wages", x.lack(0, 0), 0);
        Check.due("the most wages", x.lack(5, 100000), 100000);
    }

    /** "LACK of a TOWN: its wages less what the LOTS there PASS for, at least 0". */
    private static void lackJustNone() {
        int[][] dues = {{0, 0}, {59, 0}, {60, 0}, {61, 1}, {62, 2}, {100000, 99940}};
        for (int[] due : dues) {
            Check.due("lack with wages " + due[0], threeLots().lack(0, due[0]), due[1]);
            Check.due("lack elsewhere", threeLots().lack(1, due[0]), due[0]);
        }
        Check.due("a million there", rich().lack(0, 100000), 0);
        NewSilver x = new NewSilver();
        x.sort(500, 500, 1000, 240);
        for (int l = 0; l < 9; l++) {
            x.lot(Check.NEW, 0, 1000, 500000, 0, 0);
        }
        x.tell(Check.order(x, "0 is 999 by weight 1"), 0);
        Check.due("so much that an int would wrap around", x.lack(0, 100000), 0);
        Check.due("so much, without wages", x.lack(0, 0), 0);
    }

    private static void lackOfToday() {
        NewSilver x = Realms.busy();
        Check.due("nothing in its chest", x.lack(3, 100), 100);
        x.give(3);
        Check.due("given out", x.lack(3, 100), 52);
        x.today(14);
        Check.due("the day before a lot comes", x.lack(1, 100), 100);
        x.today(15);
        Check.due("the day on which it comes", x.lack(1, 100), 82);
        Check.due("plate passes for nothing", x.lack(2, 100), 64);
        x.tell(0, 1);
        Check.due("out from today on", x.lack(1, 100), 100);
    }
}
