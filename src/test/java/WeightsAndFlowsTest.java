import java.util.Random;

/** Promises 28 to 32. */
public final class WeightsAndFlowsTest {
    public static void main(String[] args) {
        drawn();
        drawnRefused();
        wishes();
        flows();
        flowsAgainstAllWays();
        greatFlows();
        counts();
        Check.end();
    }

    private static void drawn() {
        NewSilver x = Check.withSorts();
        int[] kinds = {Check.PLAIN, Check.CLIPPED, Check.BAG, Check.NEW, Check.FALSE};
        int[] least = {80, 1, 80, 80, 1};
        for (int l = 0; l < kinds.length; l++) {
            x.lot(kinds[l], 0, 10, 920, 0, 0);
            Check.due("least of kind " + kinds[l], x.drawn(l, 4, 350, 0), 350 + 6 * least[l]);
            Check.due("most of kind " + kinds[l], x.drawn(l, 4, 350, 1), 350 + 6 * 92);
            Check.due("none drawn", x.drawn(l, 0, 0, 0), 10 * least[l]);
            Check.due("none drawn", x.drawn(l, 0, 0, 1), 920);
            Check.due("all drawn", x.drawn(l, 10, 900, 0), 900);
            Check.due("all drawn", x.drawn(l, 10, 900, 1), 900);
            Check.due("the lightest", x.drawn(l, 4, 4 * least[l], 0), 10 * least[l]);
            Check.due("a grain below", x.drawn(l, 4, 4 * least[l] - 1, 0), Check.BAD);
        }
        x.open(2, 700);
        Check.due("of a clipped bag", x.drawn(2, 4, 4, 0), 10);
        x.lot(Check.PLAIN, 1, 1, 43, 0, 0);
        Check.due("of one coin", x.drawn(5, 0, 0, 1), 46);
    }

    private static void drawnRefused() {
        NewSilver x = Check.withSorts();
        x.lot(Check.PLAIN, 0, 10, 860, 0, 0);
        x.lot(Check.PLATE, 0, 0, 860, 0, 0);
        Check.due("no such lot", x.drawn(2, 0, 0, 0), Check.NONE);
        Check.due("no such lot", x.drawn(-1, 0, 0, 0), Check.NONE);
        Check.due("no such what", x.drawn(0, 0, 0, 2), Check.NONE);
        Check.due("no such what, bad", x.drawn(0, -1, 0, -1), Check.NONE);
        Check.due("too many", x.drawn(0, 11, 900, 0), Check.BAD);
        Check.due("too few", x.drawn(0, -1, -80, 0), Check.BAD);
        Check.due("so many that they wrap around", x.drawn(0, Check.FAR_UP, 0, 0), Check.BAD);
        Check.due("too light", x.drawn(0, 5, 399, 0), Check.BAD);
        Check.due("too heavy", x.drawn(0, 5, 461, 1), Check.BAD);
        Check.due("none that weigh", x.drawn(0, 0, 1, 1), Check.BAD);
        Check.due("no coins", x.drawn(1, 0, 0, 0), Check.BAD);
    }

    private static void wishes() {
        NewSilver x = new NewSilver();
        Check.due("of a mint", x.wish(0, 2, 1000), 0);
        Check.due("again", x.wish(0, 2, 0), 1000);
        Check.due("again", x.wish(0, 2, 3), 0);
        Check.due("of a town", x.wish(1, 2, 9), 0);
        Check.due("of the last town", x.wish(1, 5, 1), 0);
        Check.due("no such side", x.wish(2, 0, -1), Check.NONE);
        Check.due("no such side", x.wish(-1, 0, 1), Check.NONE);
        Check.due("no such mint", x.wish(0, 3, 1), Check.NONE);
        Check.due("no such mint", x.wish(0, -1, 1), Check.NONE);
        Check.due("no such town", x.wish(1, 6, 1), Check.NONE);
        Check.due("no such town", x.wish(1, -1, 1), Check.NONE);
        Check.due("below 0", x.wish(0, 2, -1), Check.BAD);
        Check.due("too much", x.wish(1, 2, 1001), Check.BAD);
        Check.due("as it was", x.wish(0, 2, 3), 3);
        Check.due("as it was", x.wish(1, 2, 9), 9);
    }

    private static void flows() {
        NewSilver x = new NewSilver();
        x.wish(0, 0, 10);
        Check.due("no town needs", x.flow() + x.sent(), 0);
        x.wish(0, 1, 7);
        x.wish(1, 0, 8);
        x.wish(1, 3, 12);
        x.road(0, 0, 3);
        x.road(3, 0, 4);
        x.road(0, 1, 2);
        x.road(3, 1, 9);
        Check.due("least cost", x.flow(), 53);
        Check.due("sent", x.sent(), 17);
        Check.due("asked again", x.flow(), 53);
        x.wish(1, 0, 0);
        x.wish(1, 3, 1);
        Check.due("one piece", x.flow(), 4);
        Check.due("sent", x.sent(), 1);
        takenBack();
    }

    /** The cheapest road first would leave the dearest one for the rest. */
    private static void takenBack() {
        NewSilver x = new NewSilver();
        int[][] days = {{1, 2, 30}, {3, 1, 2}, {30, 3, 1}};
        for (int t = 0; t < 3; t++) {
            for (int m = 0; m < 3; m++) {
                x.road(t, m, days[t][m]);
            }
        }
        x.wish(0, 0, 5);
        x.wish(0, 1, 5);
        x.wish(1, 0, 5);
        x.wish(1, 2, 5);
        Check.due("straight", x.flow(), 5 + 15);
        x.wish(1, 0, 0);
        x.wish(1, 1, 5);
        Check.due("past the cheapest", x.flow(), Math.min(5 + 150, 15 + 15));
    }

    /** The least cost of sending all that can be sent, by trying each way for each piece. */
    private static int byAllWays(int[] gives, int[] needs, int[][] days, int pieces) {
        if (pieces == 0) {
            return 0;
        }
        int mint = 0;
        while (gives[mint] == 0) {
            mint++;
        }
        int least = Integer.MAX_VALUE;
        gives[mint]--;
        for (int t = 0; t < needs.length; t++) {
            if (needs[t] > 0) {
                needs[t]--;
                least = Math.min(least, days[t][mint] + byAllWays(gives, needs, days, pieces - 1));
                needs[t]++;
            }
        }
        gives[mint]++;
        return least;
    }

    private static void flowsAgainstAllWays() {
        Random random = new Random(11);
        for (int round = 0; round < 3000; round++) {
            NewSilver x = new NewSilver();
            int[] gives = new int[3];
            int[] needs = new int[6];
            int[][] days = new int[6][3];
            int given = 0;
            for (int i = random.nextInt(6); i > 0; i--) {
                gives[random.nextInt(3)]++;
                given++;
            }
            for (int i = given + random.nextInt(3); i > 0; i--) {
                needs[random.nextInt(6)]++;
            }
            for (int m = 0; m < 3; m++) {
                x.wish(0, m, gives[m]);
                for (int t = 0; t < 6; t++) {
                    days[t][m] = 1 + random.nextInt(round % 2 == 0 ? 30 : 4);
                    x.road(t, m, days[t][m]);
                    x.wish(1, t, needs[t]);
                }
            }
            Check.due("sent", x.sent(), given);
            Check.due("least cost", x.flow(), byAllWays(gives, needs, days, given));
        }
    }

    /** With more to give than is needed the mints that do not give are as good as towns that cost nothing. */
    private static void greatFlows() {
        Random random = new Random(13);
        for (int round = 0; round < 2000; round++) {
            NewSilver x = new NewSilver();
            int[] gives = new int[3];
            int[] needs = new int[6];
            int[][] days = new int[6][3];
            for (int m = 0; m < 3; m++) {
                gives[m] = random.nextInt(round % 3 == 0 ? 4 : 1001);
                x.wish(0, m, gives[m]);
                for (int t = 0; t < 6; t++) {
                    days[t][m] = 1 + random.nextInt(30);
                    x.road(t, m, days[t][m]);
                }
            }
            for (int t = 0; t < 6; t++) {
                needs[t] = random.nextInt(round % 3 == 0 ? 3 : 1001);
                x.wish(1, t, needs[t]);
            }
            Check.due("least cost", x.flow(), FlowByCycles.leastCost(gives, needs, days));
            Check.due("sent", x.sent(), Math.min(FlowByCycles.sum(gives), FlowByCycles.sum(needs)));
        }
        NewSilver x = new NewSilver();
        for (int i = 0; i < 6; i++) {
            x.wish(0, i, 1000);
            x.wish(1, i, 1000);
            x.road(i, 0, 30);
            x.road(i, 1, 30);
            x.road(i, 2, 30);
        }
        Check.due("the most", x.sent(), 3000);
        Check.due("the dearest", x.flow(), 90000);
    }

    private static void counts() {
        NewSilver x = Check.withSorts();
        x.lot(Check.PLAIN, 0, 1, 80, 0, 0);
        x.lot(Check.PLAIN, 0, 1, 80, 0, 0);
        x.lot(Check.PLAIN, 0, 1, 80, 0, 0);
        x.lot(Check.PLAIN, 0, 1, 80, 0, 0);
        Check.order(x, "0 is 1");
        Check.write(x, "0 is");
        x.send(0, 0);
        x.today(5);
        x.melt(0);
        x.send(1, 0);
        x.pay(0, 24);
        int[] want = {2, 4, 1, 5, 1, 1, 2, 4};
        for (int what = 0; what < want.length; what++) {
            Check.due("count " + what, x.count(what), want[what]);
        }
        x.today(9);
        Check.due("still on the road", x.count(5), 1);
        x.today(10);
        Check.due("there", x.count(5), 0);
        Check.due("no such what", x.count(8), Check.NONE);
        Check.due("no such what", x.count(-1), Check.NONE);
    }
}
