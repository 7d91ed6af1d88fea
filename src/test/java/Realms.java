/** Realms for the tests of edges, each made anew by the same calls. */
final class Realms {
    /** Lots of busy(), by what has become of them. */
    static final int IN_TOWN = 0, CLIPPED_ONE = 1, BAG_IN_TOWN = 2, MELTED_PLATE = 3, NEW_ONE = 4, FOUND_FALSE = 5;
    static final int FALSE_ONE = 6, BAG_IN_CHEST = 7, TO_MINT = 8, BAG_AT_MINT = 9, MELTED_BAG = 10, PLATE_IN_TOWN = 11;
    static final int TO_TOWN = 12, STRUCK = 13, LOTS_OF_BUSY = 14;
    static final int DAY_OF_BUSY = 11;

    private Realms() {
    }

    /** Sorts 0 and 1 as of Check, sort 2 from the least to the most of all numbers. */
    static NewSilver threeSorts() {
        NewSilver x = Check.withSorts();
        x.sort(1, 500, 1000, 240);
        return x;
    }

    /** Something of all that there can be: what a refused call could spoil. */
    static NewSilver busy() {
        NewSilver x = threeSorts();
        x.lot(Check.PLAIN, 0, 10, 860, 0, 0);
        x.lot(Check.CLIPPED, 0, 10, 500, 0, 0);
        x.lot(Check.BAG, 1, 20, 860, 0, 0);
        x.lot(Check.PLATE, 0, 0, 3000, 960, 1);
        x.lot(Check.NEW, 0, 5, 460, 0, 0);
        x.lot(Check.FALSE, 1, 10, 300, 100, 0);
        x.lot(Check.FALSE, 0, 3, 100, 50, 2);
        x.lot(Check.BAG, 0, 4, 340, 0, 3);
        x.lot(Check.PLAIN, 2, 2, 700, 0, 4);
        x.lot(Check.BAG, 0, 2, 170, 0, 1);
        x.lot(Check.BAG, 0, 3, 250, 0, 1);
        x.lot(Check.PLATE, 1, 0, 77, 1000, 2);
        x.lot(Check.PLAIN, 1, 3, 130, 0, 4);
        x.road(4, 2, 30);
        x.road(1, 1, 7);
        x.furnace(2, 500);
        wishes(x);
        x.pay(3, 1);
        orders(x);
        mints(x);
        Check.write(x, "2 is 7 by weight 30");
        return x;
    }

    private static void wishes(NewSilver x) {
        x.wish(0, 0, 10);
        x.wish(0, 1, 7);
        x.wish(1, 1, 8);
        x.wish(1, 4, 12);
    }

    private static void orders(NewSilver x) {
        Check.order(x, "0 is 11 by weight 90;1 is out");
        Check.order(x, "2 is 5");
        Check.order(x, "0 is 3");
        x.today(2);
        x.tell(1, 0);
        x.today(3);
        x.tell(0, 0);
        x.tell(2, 1);
    }

    /** What was sent on the third day comes on the eighth; the last two are still on their roads at the end. */
    private static void mints(NewSilver x) {
        for (int l : new int[] {MELTED_PLATE, FOUND_FALSE, BAG_AT_MINT, MELTED_BAG, TO_TOWN}) {
            x.send(l, 0);
        }
        x.today(8);
        x.melt(MELTED_PLATE);
        x.melt(MELTED_BAG);
        x.refine(0);
        x.strike(0, 0, 3);
        x.melt(FOUND_FALSE);
        x.today(10);
        x.bring(TO_TOWN, 1);
        x.send(TO_MINT, 2);
        x.today(DAY_OF_BUSY);
    }

    static NewSilver eightSorts() {
        NewSilver x = busy();
        for (int s = 3; s < 8; s++) {
            x.sort(10 * s, 20 * s, 100 * s, s);
        }
        return x;
    }

    static NewSilver thirtyLots() {
        NewSilver x = busy();
        for (int l = LOTS_OF_BUSY; l < 30; l++) {
            x.lot(Check.PLAIN, 0, 1, 80, 0, 2);
        }
        return x;
    }

    static NewSilver tenOrders() {
        NewSilver x = busy();
        x.order();
        for (int o = 4; o < 10; o++) {
            Check.order(x, "0 is 1");
        }
        return x;
    }

    /** Ten orders and an eleventh on the tape, so that only its bytes can tell whether it was read. */
    static NewSilver tenOrdersAndTape() {
        NewSilver x = tenOrders();
        Check.write(x, "2 is 7 by weight 30");
        return x;
    }

    /** A tape of so many bytes; one of six or more begins as an order. */
    static NewSilver withTape(int bytes) {
        NewSilver x = new NewSilver();
        StringBuilder text = new StringBuilder("0 is 1");
        while (text.length() < bytes) {
            text.append('x');
        }
        Check.write(x, text.substring(0, bytes));
        return x;
    }
}
