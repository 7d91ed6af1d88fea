import java.util.function.Supplier;

/** The boundary cases of promises 28 to 32, each beside the words that name it. */
public final class EdgesOfFlowsTest {
    public static void main(String[] args) {
        drawnRefused();
        coinsDrawn();
        weightsDrawn();
        leastAndMost();
        drawnOfOpenedBags();
        drawnOfTheGreatest();
        wishesRefused();
        wishesKept();
        flowOfNothing();
        lessOfBothSums();
        flowAtEnds();
        flowByRoads();
        flowChangesNothing();
        whatIsCounted();
        countsOfBusy();
        countsOnTheDay();
        Check.end();
    }

    /** Promise 28: "NONE; BAD: ..; it has no coins". */
    private static void drawnRefused() {
        Edges.goes("lot drawn from", Realms::thirtyLots, (x, n) -> x.drawn(n, 0, 0, 0), 0, 29, Check.NONE);
        Edges.goes("what is drawn", Realms::busy, (x, n) -> x.drawn(0, 0, 0, n), 0, 1, Check.NONE);
        Edges.refused("no lot, bad", Realms::busy, x -> x.drawn(Realms.LOTS_OF_BUSY, -1, 0, 0), Check.NONE);
        Edges.refused("no lot, no what", Realms::busy, x -> x.drawn(-1, 0, 0, 2), Check.NONE);
        Edges.refused("no what, bad coins", Realms::busy, x -> x.drawn(0, 11, 880, 2), Check.NONE);
        Edges.refused("no what, bad weight", Realms::busy, x -> x.drawn(0, 1, 79, -1), Check.NONE);
        Edges.refused("no what, no coins", Realms::busy, x -> x.drawn(Realms.PLATE_IN_TOWN, 0, 0, 2), Check.NONE);
        for (int what = 0; what < 2; what++) {
            int w = what;
            Edges.refused("no coins", Realms::busy, x -> x.drawn(Realms.PLATE_IN_TOWN, 0, 0, w), Check.BAD);
            Edges.refused("no coins, one drawn", Realms::busy, x -> x.drawn(Realms.PLATE_IN_TOWN, 1, 46, w), Check.BAD);
            Edges.refused("no coins, melted", Realms::busy, x -> x.drawn(Realms.MELTED_PLATE, 0, 0, w), Check.BAD);
        }
    }

    /** Promise 28: "BAD: k not 0 .. coins". */
    private static void coinsDrawn() {
        for (int what = 0; what < 2; what++) {
            int w = what;
            Edges.goes("plain coins drawn", Realms::busy, (x, n) -> x.drawn(0, n, n * 80, w), 0, 10, Check.BAD);
            Edges.goes("plain coins drawn", Realms::busy, (x, n) -> x.drawn(0, n, n * 92, w), 0, 10, Check.BAD);
            Edges.goes("clipped coins drawn", Realms::busy, (x, n) -> x.drawn(Realms.CLIPPED_ONE, n, n, w), 0, 10, Check.BAD);
            Edges.goes("false coins drawn", Realms::busy, (x, n) -> x.drawn(Realms.FALSE_ONE, n, n, w), 0, 3, Check.BAD);
            Edges.goes("one coin drawn", Realms::thirtyLots, (x, n) -> x.drawn(29, n, n * 80, w), 0, 1, Check.BAD);
            // Where all coins weigh the same, fewer than none would still weigh so much each.
            Edges.goes("like coins drawn", EdgesOfFlowsTest::likeCoins, (x, n) -> x.drawn(0, n, n * 50, w), 0, 10, Check.BAD);
        }
    }

    private static NewSilver likeCoins() {
        NewSilver x = new NewSilver();
        x.sort(50, 50, 925, 1);
        x.lot(Check.PLAIN, 0, 10, 500, 0, 0);
        return x;
    }

    /** Promise 28: "BAD: .. weight not k times LEAST (1) .. k times MOST". */
    private static void weightsDrawn() {
        int[][] dues = {{Realms.IN_TOWN, 4, 320, 368}, {Realms.IN_TOWN, 0, 0, 0}, {Realms.IN_TOWN, 10, 800, 920},
            {Realms.CLIPPED_ONE, 4, 4, 368}, {Realms.CLIPPED_ONE, 0, 0, 0}, {Realms.BAG_IN_TOWN, 20, 800, 920},
            {Realms.NEW_ONE, 5, 400, 460}, {Realms.FALSE_ONE, 3, 3, 276}, {Realms.FOUND_FALSE, 1, 1, 46},
            {Realms.TO_MINT, 2, 2, 1000}, {Realms.STRUCK, 1, 80, 92}};
        for (int[] due : dues) {
            for (int what = 0; what < 2; what++) {
                int w = what;
                Edges.goes("weight of " + due[1] + " coins of lot " + due[0] + ":", Realms::busy,
                    (x, n) -> x.drawn(due[0], due[1], n, w), due[2], due[3], Check.BAD);
            }
        }
    }

    /** "all weigh at least that and LEAST (1 for CLIPPED, FALSE ones) for each other one, at most that and MOST". */
    private static void leastAndMost() {
        int[][] dues = {{Realms.IN_TOWN, 0, 0, 800, 920}, {Realms.IN_TOWN, 1, 80, 800, 908}, {Realms.IN_TOWN, 1, 92, 812, 920},
            {Realms.IN_TOWN, 9, 720, 800, 812}, {Realms.IN_TOWN, 10, 800, 800, 800}, {Realms.IN_TOWN, 10, 920, 920, 920},
            {Realms.CLIPPED_ONE, 0, 0, 10, 920}, {Realms.CLIPPED_ONE, 9, 9, 10, 101}, {Realms.CLIPPED_ONE, 10, 10, 10, 10},
            {Realms.BAG_IN_TOWN, 0, 0, 800, 920}, {Realms.BAG_IN_TOWN, 19, 760, 800, 806}, {Realms.NEW_ONE, 0, 0, 400, 460},
            {Realms.NEW_ONE, 4, 320, 400, 412}, {Realms.FALSE_ONE, 0, 0, 3, 276}, {Realms.FALSE_ONE, 2, 2, 3, 94},
            {Realms.FOUND_FALSE, 0, 0, 10, 460}, {Realms.TO_MINT, 1, 500, 501, 1000}, {Realms.STRUCK, 3, 276, 276, 276}};
        NewSilver x = Realms.busy();
        for (int[] due : dues) {
            String what = due[1] + " coins of lot " + due[0] + " with " + due[2];
            Check.due("least, " + what, x.drawn(due[0], due[1], due[2], 0), due[3]);
            Check.due("most, " + what, x.drawn(due[0], due[1], due[2], 1), due[4]);
        }
    }

    /** What a sealed bag may weigh is by its coins alone; opened it is as CLIPPED or PLAIN ones. */
    private static void drawnOfOpenedBags() {
        int bag = Realms.BAG_IN_TOWN;
        NewSilver x = Realms.busy();
        Check.due("sealed", x.drawn(bag, 10, 399, 0), Check.BAD);
        x.open(bag, 799);
        Check.due("clipped", x.drawn(bag, 10, 10, 0), 20);
        Check.due("clipped, less than a grain each", x.drawn(bag, 10, 9, 0), Check.BAD);
        NewSilver y = Realms.busy();
        y.open(bag, 800);
        Check.due("plain", y.drawn(bag, 10, 400, 0), 800);
        Check.due("plain, less than least", y.drawn(bag, 10, 399, 0), Check.BAD);
    }

    private static void drawnOfTheGreatest() {
        NewSilver x = new NewSilver();
        x.sort(1, 500, 1000, 1);
        x.lot(Check.PLAIN, 0, 1000, 500000, 0, 0);
        Check.due("none drawn, least", x.drawn(0, 0, 0, 0), 1000);
        Check.due("none drawn, most", x.drawn(0, 0, 0, 1), 500000);
        Check.due("all drawn, least", x.drawn(0, 1000, 1000, 1), 1000);
        Check.due("all drawn, most", x.drawn(0, 1000, 500000, 0), 500000);
        Check.due("a grain too much", x.drawn(0, 1000, 500001, 0), Check.BAD);
        Check.due("a coin too much", x.drawn(0, 1001, 500000, 0), Check.BAD);
    }

    /** Promise 29: "NONE; BAD"; "(0 .. 1000 each)". */
    private static void wishesRefused() {
        Edges.goes("side", Realms::busy, (x, n) -> x.wish(n, 0, 1), 0, 1, Check.NONE);
        Edges.goes("mint that gives", Realms::busy, (x, n) -> x.wish(0, n, 1), 0, 2, Check.NONE);
        Edges.goes("town that needs", Realms::busy, (x, n) -> x.wish(1, n, 1), 0, 5, Check.NONE);
        Edges.goes("what a mint gives", Realms::busy, (x, n) -> x.wish(0, 2, n), 0, 1000, Check.BAD);
        Edges.goes("what a town needs", Realms::busy, (x, n) -> x.wish(1, 5, n), 0, 1000, Check.BAD);
        Edges.refused("no side, bad", Realms::busy, x -> x.wish(2, 0, -1), Check.NONE);
        Edges.refused("no mint, bad", Realms::busy, x -> x.wish(0, 3, 1001), Check.NONE);
        Edges.refused("no town, bad", Realms::busy, x -> x.wish(1, 6, -1), Check.NONE);
        Edges.refused("no side, no town", Realms::busy, x -> x.wish(-1, -1, 0), Check.NONE);
    }

    /** Promise 29: "becomes so much: what it was". */
    private static void wishesKept() {
        NewSilver x = new NewSilver();
        for (int i = 0; i < 6; i++) {
            Check.due("of town " + i, x.wish(1, i, 1000 - i), 0);
            Check.due("of mint " + i, x.wish(0, i, i + 1), i < 3 ? 0 : Check.NONE);
        }
        for (int i = 0; i < 6; i++) {
            Check.due("of town " + i, x.wish(1, i, 0), 1000 - i);
            Check.due("of town " + i + " then", x.wish(1, i, 0), 0);
            Check.due("of mint " + i, x.wish(0, i, 1000), i < 3 ? i + 1 : Check.NONE);
            Check.due("of mint " + i + " then", x.wish(0, i, 0), i < 3 ? 1000 : Check.NONE);
        }
    }

    private static void flow(NewSilver x, String what, int cost, int sent) {
        Check.due(what + ": cost", x.flow(), cost);
        Check.due(what + ": sent", x.sent(), sent);
    }

    private static void flowOfNothing() {
        NewSilver x = new NewSilver();
        flow(x, "no wishes", 0, 0);
        x.wish(0, 0, 1000);
        flow(x, "nothing needed", 0, 0);
        x.wish(0, 0, 0);
        x.wish(1, 0, 1000);
        flow(x, "nothing to give", 0, 0);
        x.wish(0, 2, 1);
        flow(x, "one piece", 5, 1);
        x.wish(0, 2, 0);
        flow(x, "nothing again", 0, 0);
    }

    /** Promises 30, 31: "the most that can be sent (the less of both sums), with the least cost". */
    private static void lessOfBothSums() {
        int[][] dues = {{9, 10, 9}, {10, 10, 10}, {11, 10, 10}, {0, 10, 0}, {10, 0, 0}, {1000, 1000, 1000}, {1000, 999, 999},
            {999, 1000, 999}};
        for (int[] due : dues) {
            NewSilver x = new NewSilver();
            x.wish(0, 1, due[0]);
            x.wish(1, 4, due[1]);
            flow(x, due[0] + " for " + due[1], 5 * due[2], due[2]);
        }
        NewSilver x = new NewSilver();
        x.road(0, 0, 30);
        x.road(1, 0, 1);
        x.wish(0, 0, 10);
        x.wish(1, 0, 10);
        x.wish(1, 1, 9);
        flow(x, "a dear road must be gone", 39, 10);
        x.wish(1, 1, 10);
        flow(x, "it need not be any more", 10, 10);
    }

    private static void flowAtEnds() {
        NewSilver x = new NewSilver();
        for (int t = 0; t < 6; t++) {
            x.wish(1, t, 1000);
            for (int m = 0; m < 3; m++) {
                x.wish(0, m, 1000);
                x.road(t, m, 30);
            }
        }
        flow(x, "all mints give all, by the longest roads", 90000, 3000);
        for (int t = 0; t < 6; t++) {
            x.road(t, t % 3, 1);
        }
        flow(x, "by the shortest", 3000, 3000);
        x.wish(1, 0, 0);
        x.wish(1, 3, 999);
        flow(x, "a piece must go by the longest", 2999 + 30, 3000);
        for (int t = 1; t < 6; t++) {
            x.wish(1, t, 0);
        }
        flow(x, "no town needs", 0, 0);
    }

    /** "each ROAD costs its days for each piece": a road that is made anew costs anew. */
    private static void flowByRoads() {
        NewSilver x = new NewSilver();
        x.wish(0, 0, 7);
        x.wish(1, 5, 1000);
        int[][] dues = {{1, 7}, {30, 210}, {5, 35}};
        for (int[] due : dues) {
            x.road(5, 0, due[0]);
            Check.due("by a road of " + due[0], x.flow(), due[1]);
        }
        x.road(4, 0, 1);
        x.road(5, 1, 1);
        Check.due("other roads do not help", x.flow(), 35);
        x.wish(0, 1, 3);
        Check.due("another mint gives, too", x.flow(), 38);
        x.wish(1, 5, 3);
        Check.due("only the nearer one", x.flow(), 3);
        x.wish(1, 4, 7);
        Check.due("each the nearer one", x.flow(), 10);
    }

    /** Promises 30, 31 tell what can be sent: nothing is. */
    private static void flowChangesNothing() {
        Edges.changesNothing("flow", Realms::busy, NewSilver::flow, 17 * 5);
        Edges.changesNothing("sent", Realms::busy, NewSilver::sent, 17);
    }

    /** Promise 32: what 0 to 7. "NONE." */
    private static void whatIsCounted() {
        Edges.goes("count", Realms::busy, (x, n) -> x.count(n), 0, 7, Check.NONE);
        Edges.ends("count of nothing", NewSilver::new, (x, n) -> x.count(n), 0, 7, Check.NONE);
    }

    private static void counts(Supplier<NewSilver> realm, int... dues) {
        NewSilver x = realm.get();
        for (int what = 0; what < dues.length; what++) {
            Check.due("count " + what, x.count(what), dues[what]);
        }
    }

    private static void countsOfBusy() {
        counts(NewSilver::new, 0, 0, 0, 0, 0, 0, 0, 0);
        counts(Realms::busy, 3, 14, 3, 11, 2, 2, 1, 19);
        counts(Realms::eightSorts, 8, 14, 3, 11, 2, 2, 1, 19);
        counts(Realms::thirtyLots, 3, 30, 3, 11, 2, 2, 1, 19);
        counts(Realms::tenOrders, 3, 14, 10, 11, 2, 2, 1, 0);
        counts(() -> Realms.withTape(160), 0, 0, 0, 0, 0, 0, 0, 160);
    }

    private static void countsOnTheDay() {
        NewSilver x = new NewSilver();
        x.sort(1, 1, 925, 1);
        for (int l = 0; l < 30; l++) {
            x.lot(Check.PLAIN, 0, 1, 1, 0, 0);
        }
        x.pay(0, 30);
        Check.due("all in the chest", x.count(6), 30);
        x.give(0);
        Check.due("none in the chest", x.count(6), 0);
        for (int l = 0; l < 30; l++) {
            x.send(l, 0);
        }
        Check.due("all on roads", x.count(5), 30);
        x.today(4);
        Check.due("still on roads", x.count(5), 30);
        x.today(5);
        Check.due("none on roads", x.count(5), 0);
        for (int l = 0; l < 30; l++) {
            Check.due("melted before", x.count(4), l);
            x.melt(l);
        }
        Check.due("all melted", x.count(4), 30);
        Check.due("lots stay", x.count(1), 30);
        x.today(999);
        Check.due("the last day", x.count(3), 999);
    }
}
