/** Promises 1 to 7. */
public final class SortsAndLotsTest {
    public static void main(String[] args) {
        newObject();
        sorts();
        sortsRefused();
        lotsOfEachKind();
        lotsRefused();
        bags();
        meltedBags();
        bagsElsewhere();
        about();
        silver();
        days();
        Check.end();
    }

    private static void newObject() {
        NewSilver x = new NewSilver();
        for (int what = 0; what <= 7; what++) {
            Check.due("new count " + what, x.count(what), 0);
        }
        for (int m = 0; m < 3; m++) {
            for (int what = 0; what <= 5; what++) {
                Check.due("new mint " + m + " " + what, x.mint(m, what), 0);
            }
            Check.due("new furnace", x.furnace(m, 1), 100000);
            for (int t = 0; t < 6; t++) {
                Check.due("new road", x.road(t, m, 1), 5);
            }
            Check.due("new wish of a mint", x.wish(0, m, 0), 0);
        }
        for (int t = 0; t < 6; t++) {
            Check.due("new credit", x.credit(t), 0);
            Check.due("new force", x.force(t, 999), Check.NONE);
            Check.due("new lack", x.lack(t, 7), 7);
            Check.due("new give", x.give(t), 0);
            Check.due("new wish of a town", x.wish(1, t, 0), 0);
        }
        Check.due("new paid", x.paid(0), Check.NONE);
        Check.due("new all", x.all(), 0);
        Check.due("new flow", x.flow(), 0);
        Check.due("new sent", x.sent(), 0);
    }

    private static void sorts() {
        NewSilver x = new NewSilver();
        Check.due("least of all", x.sort(1, 1, 0, 1), 0);
        Check.due("most of all", x.sort(500, 500, 1000, 240), 1);
        for (int s = 2; s < 8; s++) {
            Check.due("sort " + s, x.sort(10, 20, 500, 5), s);
        }
        Check.due("a ninth", x.sort(10, 20, 500, 5), Check.FULL);
        Check.due("a ninth that is bad", x.sort(0, 20, 500, 5), Check.BAD);
        Check.due("sorts", x.count(0), 8);
    }

    private static void sortsRefused() {
        NewSilver x = new NewSilver();
        int[][] bad = {
            {0, 20, 500, 5}, {-1, 20, 500, 5}, {21, 20, 500, 5}, {10, 501, 500, 5}, {501, 501, 500, 5},
            {0, 0, 500, 5}, {10, 20, -1, 5}, {10, 20, 1001, 5}, {10, 20, 500, 0}, {10, 20, 500, 241},
            {Check.FAR_DOWN, Check.FAR_UP, 0, 1}};
        for (int[] b : bad) {
            Check.due("sort " + b[0] + " " + b[1] + " " + b[2] + " " + b[3], x.sort(b[0], b[1], b[2], b[3]), Check.BAD);
        }
        Check.due("sorts", x.count(0), 0);
    }

    private static void lotsOfEachKind() {
        NewSilver x = Check.withSorts();
        int[][] good = {
            {Check.PLAIN, 0, 10, 800, 0, 0}, {Check.PLAIN, 0, 10, 920, 0, 5}, {Check.PLAIN, 1, 1000, 40000, 0, 0},
            {Check.CLIPPED, 0, 10, 10, 0, 0}, {Check.CLIPPED, 0, 10, 920, 0, 0}, {Check.BAG, 0, 1, 80, 0, 0},
            {Check.BAG, 0, 1, 92, 0, 0}, {Check.PLATE, 1, 0, 1, 0, 0}, {Check.PLATE, 1, 0, 100000, 1000, 0},
            {Check.NEW, 0, 3, 276, 0, 0}, {Check.FALSE, 1, 10, 10, 0, 0}, {Check.FALSE, 1, 10, 460, 1000, 0}};
        for (int i = 0; i < good.length; i++) {
            int[] g = good[i];
            Check.due("lot " + i, x.lot(g[0], g[1], g[2], g[3], g[4], g[5]), i);
            Check.due("its town", x.about(i, 5), g[5]);
        }
        for (int i = good.length; i < 30; i++) {
            Check.due("lot " + i, x.lot(Check.PLAIN, 0, 1, 80, 0, 0), i);
        }
        Check.due("a lot more", x.lot(Check.PLAIN, 0, 1, 80, 0, 0), Check.FULL);
        Check.due("a lot more, bad", x.lot(Check.PLAIN, 0, 1, 79, 0, 0), Check.BAD);
        Check.due("a lot more, none", x.lot(Check.PLAIN, 2, 1, 79, 0, 0), Check.NONE);
        Check.due("lots", x.count(1), 30);
    }

    private static void lotsRefused() {
        NewSilver x = Check.withSorts();
        int[][] none = {
            {Check.PLAIN, 2, 1, 80, 0, 0}, {Check.PLAIN, -1, 1, 80, 0, 0}, {Check.PLAIN, 0, 1, 80, 0, 6},
            {Check.PLAIN, 0, 1, 80, 0, -1}, {Check.PLATE, 2, 0, 1, 0, 0}, {9, 7, 1, 80, 0, 0}};
        for (int[] n : none) {
            Check.due("lot without " + n[1] + " " + n[5], x.lot(n[0], n[1], n[2], n[3], n[4], n[5]), Check.NONE);
        }
        int[][] bad = {
            {-1, 1, 80, 0}, {6, 1, 80, 0}, {Check.PLAIN, 0, 0, 0}, {Check.PLAIN, 1001, 81000, 0},
            {Check.PLAIN, 10, 799, 0}, {Check.PLAIN, 10, 921, 0}, {Check.PLAIN, 10, 800, 1}, {Check.PLAIN, 10, 800, -1},
            {Check.CLIPPED, 10, 9, 0}, {Check.CLIPPED, 10, 921, 0}, {Check.CLIPPED, 10, 10, 925},
            {Check.BAG, 10, 799, 0}, {Check.BAG, 10, 921, 0}, {Check.BAG, 10, 800, 1},
            {Check.PLATE, 1, 10, 0}, {Check.PLATE, 0, 0, 0}, {Check.PLATE, 0, 100001, 0}, {Check.PLATE, 0, 1, 1001},
            {Check.PLATE, 0, 1, -1}, {Check.NEW, 3, 275, 0}, {Check.NEW, 3, 277, 0}, {Check.NEW, 3, 276, 1},
            {Check.FALSE, 10, 9, 0}, {Check.FALSE, 10, 921, 0}, {Check.FALSE, 10, 10, 1001}, {Check.FALSE, 10, 10, -1},
            {Check.FALSE, 0, 0, 0}, {Check.PLAIN, Check.FAR_UP, Check.FAR_UP, 0}, {Check.PLAIN, 1 << 28, 0, 0},
            {Check.PLAIN, Check.FAR_DOWN, 0, 0}};
        for (int[] b : bad) {
            Check.due("bad lot " + b[0] + " " + b[1] + " " + b[2] + " " + b[3],
                x.lot(b[0], 0, b[1], b[2], b[3], 0), Check.BAD);
        }
        Check.due("lots", x.count(1), 0);
    }

    private static void bags() {
        NewSilver x = Check.withSorts();
        x.lot(Check.BAG, 0, 10, 860, 0, 0);
        x.lot(Check.BAG, 0, 10, 860, 0, 0);
        x.lot(Check.BAG, 0, 10, 860, 0, 0);
        x.lot(Check.PLAIN, 0, 10, 860, 0, 0);
        x.lot(Check.PLATE, 0, 0, 860, 0, 0);
        Check.due("no such lot", x.open(5, 860), Check.NONE);
        Check.due("no such lot", x.open(-1, 860), Check.NONE);
        Check.due("less than a grain each", x.open(0, 9), Check.BAD);
        Check.due("more than most", x.open(0, 921), Check.BAD);
        Check.due("a bag below", x.open(0, 799), 1);
        Check.due("its kind", x.about(0, 0), Check.CLIPPED);
        Check.due("its weight", x.about(0, 3), 799);
        Check.due("its silver", x.silver(0), 799L * 925);
        Check.due("a bag not below", x.open(1, 800), 0);
        Check.due("its kind", x.about(1, 0), Check.PLAIN);
        Check.due("its weight", x.about(1, 3), 800);
        Check.due("a bag at its most", x.open(2, 920), 0);
        Check.due("opened again", x.open(2, 920), Check.STATE);
        Check.due("opened again, bad", x.open(2, 921), Check.BAD);
        Check.due("a plain one", x.open(3, 10), Check.STATE);
        Check.due("plate, bad", x.open(4, 1), Check.BAD);
        Check.due("plate", x.open(4, 0), Check.STATE);
        Check.due("least of all", bagOpened(10), 1);
    }

    private static void meltedBags() {
        NewSilver x = Check.withSorts();
        x.lot(Check.BAG, 0, 10, 860, 0, 0);
        x.lot(Check.BAG, 0, 10, 860, 0, 0);
        x.today(x.send(0, 0));
        x.melt(0);
        Check.due("a melted bag, no such lot", x.open(2, 860), Check.NONE);
        Check.due("a melted bag, too light", x.open(0, 9), Check.BAD);
        Check.due("a melted bag, too heavy", x.open(0, 921), Check.BAD);
        for (int weight : new int[] {10, 799, 800, 860, 920}) {
            Check.due("a melted bag", x.open(0, weight), Check.STATE);
        }
        Check.due("its kind stays", x.about(0, 0), Check.BAG);
        Check.due("its weight stays", x.about(0, 3), 860);
        Check.due("its silver stays", x.silver(0), 860L * 925);
        Check.due("the pot stays", x.mint(0, 0), 860);
        Check.due("all stays", x.all(), 2 * 860L * 925);
        Check.due("one that is not melted", x.open(1, 799), 1);
    }

    private static void bagsElsewhere() {
        NewSilver x = Check.withSorts();
        for (int l = 0; l < 3; l++) {
            x.lot(Check.BAG, 0, 10, 860, 0, l);
        }
        x.pay(2, 1);
        x.today(x.send(0, 0));
        x.send(1, 0);
        Check.due("one on a road", x.count(5), 1);
        Check.due("one in a chest", x.count(6), 1);
        Check.due("a bag at a mint", x.open(0, 799), 1);
        Check.due("a bag on a road", x.open(1, 800), 0);
        Check.due("a bag in a chest", x.open(2, 920), 0);
        Check.due("opened, then melted", x.melt(0), 1);
        Check.due("with the weight that was found", x.mint(0, 0), 799);
        Check.due("opened, melted", x.open(0, 799), Check.STATE);
    }

    private static int bagOpened(int weight) {
        NewSilver x = Check.withSorts();
        x.lot(Check.BAG, 0, 10, 860, 0, 0);
        return x.open(0, weight);
    }

    private static void about() {
        NewSilver x = Check.withSorts();
        x.lot(Check.FALSE, 1, 10, 300, 100, 4);
        int[] want = {Check.FALSE, 1, 10, 300, 100, 4, Check.NONE, Check.NONE, 0, 0, 0};
        for (int what = 0; what < want.length; what++) {
            Check.due("about " + what, x.about(0, what), want[what]);
        }
        Check.due("no such what", x.about(0, 11), Check.NONE);
        Check.due("no such what", x.about(0, -1), Check.NONE);
        Check.due("no such lot", x.about(1, 0), Check.NONE);
        Check.due("no such lot", x.about(-1, 0), Check.NONE);
        x.lot(Check.PLAIN, 1, 10, 400, 0, 4);
        Check.due("the sort's fine", x.about(1, 4), 900);
        Check.due("sent", x.send(1, 2), 5);
        Check.due("town on the road", x.about(1, 5), Check.NONE);
        Check.due("mint on the road", x.about(1, 6), 2);
        Check.due("day on the road", x.about(1, 7), 5);
        x.today(5);
        Check.due("day when there", x.about(1, 7), Check.NONE);
        Check.due("mint when there", x.about(1, 6), 2);
        x.melt(1);
        int[] melted = {Check.PLAIN, 1, 10, 400, 900, Check.NONE, Check.NONE, Check.NONE, 1, 0, 0};
        for (int what = 0; what < melted.length; what++) {
            Check.due("about the melted one " + what, x.about(1, what), melted[what]);
        }
    }

    private static void silver() {
        NewSilver x = Check.withSorts();
        x.lot(Check.PLAIN, 1, 10, 400, 0, 0);
        x.lot(Check.PLATE, 1, 0, 1000, 960, 0);
        x.lot(Check.FALSE, 1, 10, 300, 100, 0);
        x.sort(500, 500, 1000, 1);
        x.lot(Check.NEW, 2, 1000, 500000, 0, 0);
        Check.due("of the sort", x.silver(0), 360000);
        Check.due("of plate", x.silver(1), 960000);
        Check.due("of a false one", x.silver(2), 30000);
        Check.due("the most", x.silver(3), 500000000);
        Check.due("no such lot", x.silver(4), Check.NONE);
        Check.due("no such lot", x.silver(-1), Check.NONE);
    }

    private static void days() {
        NewSilver x = new NewSilver();
        Check.due("the same day", x.today(0), 0);
        Check.due("a later day", x.today(7), 0);
        Check.due("the same day", x.today(7), 7);
        Check.due("an earlier day", x.today(6), Check.BAD);
        Check.due("below 0", x.today(-1), Check.BAD);
        Check.due("beyond the last", x.today(1000), Check.BAD);
        Check.due("today", x.count(3), 7);
        Check.due("the last", x.today(999), 7);
        Check.due("today", x.count(3), 999);
    }
}
