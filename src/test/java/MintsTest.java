/** Promises 19 to 27. */
public final class MintsTest {
    public static void main(String[] args) {
        roads();
        sending();
        bringing();
        melting();
        furnaces();
        falseOnes();
        richPots();
        poorPots();
        refinedAgain();
        striking();
        strikingRefused();
        mints();
        silverKept();
        Check.end();
    }

    /** Plate of so many grains and such a fine, melted at a mint at once. */
    private static NewSilver withPot(int grains, int fine) {
        NewSilver x = Check.withSorts();
        addToPot(x, grains, fine);
        return x;
    }

    private static int addToPot(NewSilver x, int grains, int fine) {
        int l = x.lot(Check.PLATE, 0, 0, grains, fine, 0);
        x.today(x.send(l, 0));
        return x.melt(l);
    }

    private static void roads() {
        NewSilver x = new NewSilver();
        Check.due("at first", x.road(5, 2, 30), 5);
        Check.due("then", x.road(5, 2, 1), 30);
        Check.due("another mint", x.road(5, 1, 7), 5);
        Check.due("another town", x.road(4, 2, 7), 5);
        Check.due("no such town", x.road(6, 0, 0), Check.NONE);
        Check.due("no such town", x.road(-1, 0, 1), Check.NONE);
        Check.due("no such mint", x.road(0, 3, 0), Check.NONE);
        Check.due("no such mint", x.road(0, -1, 1), Check.NONE);
        Check.due("no days", x.road(5, 2, 0), Check.BAD);
        Check.due("too many days", x.road(5, 2, 31), Check.BAD);
        Check.due("as it was", x.road(5, 2, 2), 1);
    }

    private static void sending() {
        NewSilver x = Check.withSorts();
        x.lot(Check.PLAIN, 0, 1, 80, 0, 2);
        x.lot(Check.PLAIN, 0, 1, 80, 0, 2);
        x.road(2, 1, 3);
        Check.due("sent", x.send(0, 1), 3);
        Check.due("on roads", x.count(5), 1);
        Check.due("on the road already", x.send(0, 1), Check.STATE);
        x.road(2, 1, 30);
        Check.due("a road made longer later", x.about(0, 7), 3);
        x.today(3);
        Check.due("on roads", x.count(5), 0);
        Check.due("at a mint", x.send(0, 1), Check.STATE);
        Check.due("melted", x.melt(0) == 1 ? x.send(0, 1) : 0, Check.STATE);
        Check.due("no such lot", x.send(2, 0), Check.NONE);
        Check.due("no such lot", x.send(-1, 0), Check.NONE);
        Check.due("no such mint", x.send(1, 3), Check.NONE);
        Check.due("no such mint, of a melted one", x.send(0, -1), Check.NONE);
        x.today(999);
        Check.due("beyond the last day", x.send(1, 1), 1029);
        Check.due("its day", x.about(1, 7), 1029);
    }

    private static void bringing() {
        NewSilver x = Check.withSorts();
        x.lot(Check.PLAIN, 0, 1, 80, 0, 2);
        x.road(4, 1, 2);
        Check.due("in a town", x.bring(0, 2), Check.STATE);
        x.send(0, 1);
        Check.due("on the road to a mint", x.bring(0, 2), Check.STATE);
        x.today(5);
        Check.due("no such lot", x.bring(1, 2), Check.NONE);
        Check.due("no such lot", x.bring(-1, 2), Check.NONE);
        Check.due("no such town", x.bring(0, 6), Check.NONE);
        Check.due("no such town", x.bring(0, -1), Check.NONE);
        Check.due("brought", x.bring(0, 4), 7);
        Check.due("its town", x.about(0, 5), 4);
        Check.due("its mint", x.about(0, 6), Check.NONE);
        Check.due("on the road to a town", x.bring(0, 4), Check.STATE);
        Check.due("on the road it is in no town", x.send(0, 0), Check.STATE);
        x.today(7);
        Check.due("in a town", x.bring(0, 4), Check.STATE);
        Check.due("sent on", x.send(0, 0), 12);
        x.today(12);
        x.melt(0);
        Check.due("melted", x.bring(0, 4), Check.STATE);
    }

    private static void melting() {
        NewSilver x = Check.withSorts();
        x.lot(Check.PLAIN, 0, 10, 860, 0, 0);
        x.lot(Check.BAG, 1, 10, 430, 0, 0);
        Check.due("in a town", x.melt(0), Check.STATE);
        x.send(0, 2);
        x.send(1, 2);
        x.today(4);
        Check.due("on the road", x.melt(0), Check.STATE);
        x.today(5);
        Check.due("melted", x.melt(0), 1);
        Check.due("grains", x.mint(2, 0), 860);
        Check.due("silver", x.mint(2, 1), 860 * 925);
        Check.due("melted again", x.melt(0), Check.STATE);
        Check.due("a bag", x.melt(1), 1);
        Check.due("grains", x.mint(2, 0), 1290);
        Check.due("silver", x.mint(2, 1), 860 * 925 + 430 * 900);
        Check.due("melted ones", x.count(4), 2);
        Check.due("the other mints", x.mint(0, 0) + x.mint(1, 0), 0);
        Check.due("no such lot", x.melt(2), Check.NONE);
        Check.due("no such lot", x.melt(-1), Check.NONE);
    }

    private static void furnaces() {
        NewSilver x = Check.withSorts();
        for (int l = 0; l < 4; l++) {
            x.lot(Check.PLATE, 0, 0, 50000, 0, 0);
            x.send(l, l == 3 ? 1 : 0);
        }
        x.today(5);
        Check.due("melted", x.melt(0), 1);
        Check.due("till it is full", x.melt(1), 1);
        Check.due("grains today", x.mint(0, 5), 100000);
        Check.due("no more today", x.melt(2), Check.FULL);
        Check.due("it is not melted", x.about(2, 8), 0);
        Check.due("another furnace", x.melt(3), 1);
        x.today(5);
        Check.due("the same day", x.melt(2), Check.FULL);
        Check.due("a greater furnace", x.furnace(0, 149999), 100000);
        Check.due("not great enough", x.melt(2), Check.FULL);
        Check.due("greater", x.furnace(0, 40000), 149999);
        x.today(6);
        Check.due("grains today", x.mint(0, 5), 0);
        Check.due("too small for it", x.melt(2), Check.FULL);
        x.furnace(0, 50000);
        Check.due("just great enough", x.melt(2), 1);
        Check.due("grains today", x.mint(0, 5), 50000);
        Check.due("grains in all", x.mint(0, 0), 150000);
        Check.due("no such mint", x.furnace(3, 0), Check.NONE);
        Check.due("no such mint", x.furnace(-1, 1), Check.NONE);
        Check.due("nothing", x.furnace(0, 0), Check.BAD);
        Check.due("too great", x.furnace(0, 1000001), Check.BAD);
        Check.due("the greatest", x.furnace(0, 1000000), 50000);
        Check.due("the least", x.furnace(0, 1), 1000000);
    }

    private static void falseOnes() {
        NewSilver x = Check.withSorts();
        x.lot(Check.FALSE, 0, 10, 300, 100, 0);
        x.lot(Check.FALSE, 0, 10, 300, 100, 1);
        x.lot(Check.FALSE, 1, 10, 300, 100, 0);
        x.lot(Check.PLAIN, 0, 10, 860, 0, 0);
        Check.due("in a town", x.melt(0), Check.STATE);
        x.send(0, 0);
        x.today(5);
        x.furnace(0, 1);
        Check.due("whatever the furnace", x.melt(0), 0);
        int[] found = {1, 1, 0, 0};
        for (int l = 0; l < found.length; l++) {
            Check.due("found, lot " + l, x.about(l, 10), found[l]);
        }
        Check.due("its kind", x.about(0, 0), Check.FALSE);
        Check.due("it stays there", x.about(0, 6), 0);
        Check.due("it is not melted", x.about(0, 8), 0);
        Check.due("grains", x.mint(0, 0), 0);
        Check.due("found already", x.melt(0), 0);
        Check.due("one that comes later", x.lot(Check.FALSE, 0, 1, 30, 100, 0), 4);
        Check.due("is not found", x.about(4, 10), 0);
        Check.due("and passes", x.pass(4, 0, 5), 12);
        Check.due("the other passes no more", x.pass(1, 1, 5), 0);
        Check.due("till it is found, too", x.melt(0) + x.about(4, 10), 1);
        Check.due("a found one is brought", x.bring(0, 3), 10);
    }

    private static void pot(NewSilver x, String what, long grains, long silver) {
        Check.due(what + ": grains", x.mint(0, 0), grains);
        Check.due(what + ": silver", x.mint(0, 1), silver);
    }

    private static void richPots() {
        NewSilver x = withPot(1000, 960);
        Check.due("not refined yet", x.mint(0, 2), 0);
        Check.due("copper", x.refine(0), 37);
        pot(x, "rich", 1037, 959225);
        Check.due("refined", x.mint(0, 2), 1);
        Check.due("copper in all", x.mint(0, 3), 37);
        Check.due("treasury in all", x.mint(0, 4), 0);
        Check.due("of pure silver just the law", withPot(925, 1000).refine(0), 75);
        Check.due("of one grain", withPot(1, 1000).refine(0), 0);
        NewSilver y = withPot(12, 1000);
        Check.due("less than a grain of copper", y.refine(0), 0);
        pot(y, "less than a grain", 12, 11100);
        Check.due("what went off is counted", y.all(), 12000);
        NewSilver z = withPot(13, 1000);
        Check.due("a grain of copper", z.refine(0), 1);
        pot(z, "a grain", 14, 12950);
    }

    private static void poorPots() {
        NewSilver x = withPot(860, 900);
        Check.due("silver of the treasury", x.refine(0), 287);
        pot(x, "poor", 1147, 1060975);
        Check.due("copper in all", x.mint(0, 3), 0);
        Check.due("treasury in all", x.mint(0, 4), 287);
        Check.due("all", x.all(), 774000);
        NewSilver y = withPot(3, 900);
        Check.due("just enough", y.refine(0), 1);
        pot(y, "just enough", 4, 3700);
        NewSilver z = withPot(1, 924);
        Check.due("of a thousandth", z.refine(0), 1);
        pot(z, "of a thousandth", 2, 1850);
        Check.due("what went off is counted", z.all(), 924);
        Check.due("copper alone", withPot(100000, 0).refine(0), 1233334);
        Check.due("just the law", withPot(1000, 925).refine(0), 0);
    }

    private static void refinedAgain() {
        NewSilver x = withPot(1000, 960);
        Check.due("no such mint", x.refine(3), Check.NONE);
        Check.due("no such mint", x.refine(-1), Check.NONE);
        Check.due("empty", x.refine(1), Check.STATE);
        x.refine(0);
        Check.due("again", x.refine(0), 0);
        pot(x, "again", 1037, 959225);
        addToPot(x, 860, 900);
        Check.due("not refined any more", x.mint(0, 2), 0);
        Check.due("once more", x.refine(0), 287);
        Check.due("copper in all", x.mint(0, 3), 37);
        Check.due("treasury in all", x.mint(0, 4), 287);
        addToPot(x, 1000, 960);
        x.refine(0);
        addToPot(x, 860, 900);
        x.refine(0);
        Check.due("copper in all", x.mint(0, 3), 74);
        Check.due("treasury in all", x.mint(0, 4), 574);
        Check.due("all", x.all(), 2 * (960000 + 774000));
    }

    private static void striking() {
        NewSilver x = withPot(920, 925);
        Check.due("not refined", x.strike(0, 0, 1), Check.STATE);
        x.refine(0);
        Check.due("not as much", x.strike(0, 0, 11), Check.STATE);
        Check.due("struck", x.strike(0, 0, 9), 1);
        int[] want = {Check.NEW, 0, 9, 828, 925, Check.NONE, 0, Check.NONE, 0, 0, 0};
        for (int what = 0; what < want.length; what++) {
            Check.due("about the new one " + what, x.about(1, what), want[what]);
        }
        pot(x, "struck", 92, 92 * 925);
        Check.due("still refined", x.mint(0, 2), 1);
        Check.due("just as much", x.strike(0, 0, 1), 2);
        pot(x, "all struck", 0, 0);
        Check.due("empty", x.refine(0), Check.STATE);
        Check.due("nothing left", x.strike(0, 0, 1), Check.STATE);
        Check.due("all", x.all(), 920 * 925);
        Check.due("it can be brought", x.bring(1, 5), 10);
        Check.due("it can be melted", x.melt(2), 1);
        Check.due("lots", x.count(1), 3);
    }

    private static void strikingRefused() {
        NewSilver x = withPot(100000, 925);
        Check.due("no such mint", x.strike(3, 0, 0), Check.NONE);
        Check.due("no such mint", x.strike(-1, 0, 1), Check.NONE);
        Check.due("no such sort", x.strike(0, 2, 0), Check.NONE);
        Check.due("no such sort", x.strike(0, -1, 1), Check.NONE);
        Check.due("no coins", x.strike(0, 0, 0), Check.BAD);
        Check.due("too many coins", x.strike(0, 0, 1001), Check.BAD);
        Check.due("so many that they wrap around", x.strike(0, 0, Check.FAR_UP), Check.BAD);
        Check.due("not the law", x.strike(0, 1, 1), Check.BAD);
        x.refine(0);
        Check.due("most coins", x.strike(0, 0, 1000), 1);
        for (int l = 2; l < 30; l++) {
            Check.due("struck", x.strike(0, 0, 1), l);
        }
        long before = x.mint(0, 0);
        Check.due("no room", x.strike(0, 0, 1), Check.FULL);
        Check.due("no room, not as much", x.strike(0, 0, 1000), Check.STATE);
        Check.due("nothing struck", x.mint(0, 0), before);
        Check.due("lots", x.count(1), 30);
    }

    private static void mints() {
        NewSilver x = withPot(1000, 960);
        long[] want = {1000, 960000, 0, 0, 0, 1000};
        for (int what = 0; what < want.length; what++) {
            Check.due("mint what " + what, x.mint(0, what), want[what]);
        }
        Check.due("no such what", x.mint(0, 6), Check.NONE);
        Check.due("no such what", x.mint(0, -1), Check.NONE);
        Check.due("no such mint", x.mint(3, 0), Check.NONE);
        Check.due("no such mint", x.mint(-1, 0), Check.NONE);
        x.today(6);
        Check.due("melted today", x.mint(0, 5), 0);
        NewSilver y = new NewSilver();
        y.sort(500, 500, 1000, 1);
        y.furnace(0, 1000000);
        for (int l = 0; l < 30; l++) {
            y.lot(Check.NEW, 0, 1000, 500000, 0, 0);
            y.today(y.send(l, 0));
            Check.due("melted", y.melt(l), 1);
        }
        Check.due("much silver", y.mint(0, 1), 15000000000L);
        Check.due("much copper", y.refine(0), 1216216);
    }

    private static void silverKept() {
        NewSilver x = Check.withSorts();
        x.lot(Check.PLAIN, 0, 10, 860, 0, 0);
        x.lot(Check.FALSE, 1, 10, 300, 100, 0);
        x.lot(Check.BAG, 1, 10, 430, 0, 0);
        long all = 860L * 925 + 300 * 100 + 430 * 900;
        Check.due("of lots", x.all(), all);
        x.pay(0, 1);
        x.send(2, 0);
        Check.due("in chests, on roads", x.all(), all);
        x.today(5);
        x.melt(2);
        Check.due("in pots", x.all(), all);
        x.refine(0);
        Check.due("refined", x.all(), all);
        x.strike(0, 0, 4);
        Check.due("struck", x.all(), all);
        x.lot(Check.BAG, 0, 10, 860, 0, 0);
        x.open(4, 600);
        Check.due("a bag opened", x.all(), all + 600 * 925);
    }
}
