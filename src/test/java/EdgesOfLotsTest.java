import java.util.List;
import java.util.function.Supplier;

/** The boundary cases of promises 1 to 7, each beside the words that name it. */
public final class EdgesOfLotsTest {
    public static void main(String[] args) {
        nothingIsThere();
        objectsApart();
        numbersOfSorts();
        eightSorts();
        sortsAndTownsOfLots();
        kindsOfLots();
        coinsOfLots();
        weightsOfLots();
        finesOfLots();
        thirtyLots();
        firstRefusalOfLots();
        weightsOfBags();
        bagsOfOneCoin();
        noSealedBag();
        firstRefusalOfOpening();
        whatIsAskedOfLots();
        whereLotsAre();
        roadsTillADay();
        silverOfLots();
        days();
        Check.end();
    }

    /** Promise 1: "Nothing is there." */
    private static void nothingIsThere() {
        Supplier<NewSilver> realm = NewSilver::new;
        Edges.refused("new: lot", realm, x -> x.lot(Check.PLAIN, 0, 1, 1, 0, 0), Check.NONE);
        Edges.refused("new: plate", realm, x -> x.lot(Check.PLATE, 0, 0, 1, 0, 0), Check.NONE);
        Edges.refused("new: open", realm, x -> x.open(0, 1), Check.NONE);
        Edges.refused("new: about", realm, x -> x.about(0, 0), Check.NONE);
        Edges.refused("new: silver", realm, x -> x.silver(0), -1);
        Edges.refused("new: tell", realm, x -> x.tell(0, 0), Check.NONE);
        Edges.refused("new: force", realm, x -> x.force(0, 0), Check.NONE);
        Edges.refused("new: pass", realm, x -> x.pass(0, 0, 0), Check.NONE);
        Edges.refused("new: light", realm, x -> x.light(0, 0, 0, 0), Check.NONE);
        Edges.refused("new: pay", realm, x -> x.pay(0, 1), Check.STATE);
        Edges.refused("new: paid", realm, x -> x.paid(0), Check.NONE);
        Edges.refused("new: send", realm, x -> x.send(0, 0), Check.NONE);
        Edges.refused("new: bring", realm, x -> x.bring(0, 0), Check.NONE);
        Edges.refused("new: melt", realm, x -> x.melt(0), Check.NONE);
        Edges.refused("new: refine", realm, x -> x.refine(0), Check.STATE);
        Edges.refused("new: strike", realm, x -> x.strike(0, 0, 1), Check.NONE);
        Edges.refused("new: drawn", realm, x -> x.drawn(0, 0, 0, 0), Check.NONE);
        NewSilver x = new NewSilver();
        Check.due("new: an order of no bytes", x.order(), -10);
        Check.due("new: give", x.give(5), 0);
        Check.due("new: lack", x.lack(5, 0), 0);
        Check.due("new: flow", x.flow(), 0);
        Check.due("new: sent", x.sent(), 0);
        Check.due("new: all", x.all(), 0);
        for (int what = 0; what < 8; what++) {
            Check.due("new: count " + what, x.count(what), 0);
        }
    }

    private static void objectsApart() {
        NewSilver x = new NewSilver();
        Realms.busy();
        for (int what = 0; what < 8; what++) {
            Check.due("beside another: count " + what, x.count(what), 0);
        }
        Check.due("beside another: road", x.road(4, 2, 1), 5);
        Check.due("beside another: furnace", x.furnace(2, 1), 100000);
        Check.due("beside another: wish", x.wish(0, 0, 1), 0);
        Check.due("beside another: credit", x.credit(3), 0);
    }

    /** Promise 2: "LEAST to MOST of a coin (grains, 1 .. 500), FINE (thousandths, 0 .. 1000), NAME VALUE (1 .. 240)". */
    private static void numbersOfSorts() {
        Supplier<NewSilver> realm = Realms::busy;
        Edges.goes("least, most 500:", realm, (x, n) -> x.sort(n, 500, 925, 12), 1, 500, Check.BAD);
        Edges.goes("least, most 20:", realm, (x, n) -> x.sort(n, 20, 925, 12), 1, 20, Check.BAD);
        Edges.goes("least, most 1:", realm, (x, n) -> x.sort(n, 1, 925, 12), 1, 1, Check.BAD);
        Edges.goes("most, least 1:", realm, (x, n) -> x.sort(1, n, 925, 12), 1, 500, Check.BAD);
        Edges.goes("most, least 20:", realm, (x, n) -> x.sort(20, n, 925, 12), 20, 500, Check.BAD);
        Edges.goes("most, least 500:", realm, (x, n) -> x.sort(500, n, 925, 12), 500, 500, Check.BAD);
        Edges.goes("fine", realm, (x, n) -> x.sort(80, 92, n, 12), 0, 1000, Check.BAD);
        Edges.goes("value", realm, (x, n) -> x.sort(80, 92, 925, n), 1, 240, Check.BAD);
        for (int n : new int[] {0, -1, 501, Check.FAR_UP, Check.FAR_DOWN}) {
            Edges.refused("least and most " + n, realm, x -> x.sort(n, n, 925, 12), Check.BAD);
        }
        numbersAreKept(1, 1, 0, 1);
        numbersAreKept(1, 500, 1000, 240);
        numbersAreKept(500, 500, 1, 239);
    }

    private static void numbersAreKept(int least, int most, int fine, int value) {
        NewSilver x = new NewSilver();
        Check.due("the first sort", x.sort(least, most, fine, value), 0);
        Check.due("a lot of it", x.lot(Check.PLAIN, 0, 1, most, 0, 0), 0);
        Check.due("its least", x.drawn(0, 0, 0, 0), least);
        Check.due("its most", x.drawn(0, 0, 0, 1), most);
        Check.due("its fine", x.about(0, 4), fine);
        Check.due("its value", x.pass(0, 0, 0), value);
    }

    /** Promise 2: "SORTS are numbered from 0 on, 8 at most"; "BAD; FULL". */
    private static void eightSorts() {
        NewSilver x = new NewSilver();
        for (int s = 0; s < 8; s++) {
            Check.due("sort", x.sort(s + 1, s + 1, s, s + 1), s);
            Check.due("sorts", x.count(0), s + 1);
        }
        for (int s = 0; s < 8; s++) {
            Check.due("a lot of sort " + s, x.lot(Check.NEW, s, 1, s + 1, 0, 0), s);
            Check.due("its value", x.pass(s, 0, 0), s + 1);
        }
        Edges.refused("a ninth sort", Realms::eightSorts, y -> y.sort(1, 1, 0, 1), Check.FULL);
        Edges.refused("a ninth, least 0", Realms::eightSorts, y -> y.sort(0, 1, 0, 1), Check.BAD);
        Edges.refused("a ninth, most 501", Realms::eightSorts, y -> y.sort(1, 501, 0, 1), Check.BAD);
        Edges.refused("a ninth, fine 1001", Realms::eightSorts, y -> y.sort(1, 1, 1001, 1), Check.BAD);
        Edges.refused("a ninth, value 241", Realms::eightSorts, y -> y.sort(1, 1, 0, 241), Check.BAD);
    }

    /** Promise 3: "NONE: SORT, TOWN"; "TOWNS 0 .. 5". */
    private static void sortsAndTownsOfLots() {
        Edges.goes("sort of three", Realms::busy, (x, n) -> x.lot(Check.CLIPPED, n, 1, 1, 0, 0), 0, 2, Check.NONE);
        Edges.goes("sort of eight", Realms::eightSorts, (x, n) -> x.lot(Check.CLIPPED, n, 1, 1, 0, 0), 0, 7, Check.NONE);
        Edges.goes("sort of plate", Realms::busy, (x, n) -> x.lot(Check.PLATE, n, 0, 1, 0, 0), 0, 2, Check.NONE);
        Edges.goes("town", Realms::busy, (x, n) -> x.lot(Check.CLIPPED, 0, 1, 1, 0, n), 0, 5, Check.NONE);
        NewSilver x = Realms.threeSorts();
        for (int t = 0; t < 6; t++) {
            Check.due("a lot of town " + t, x.lot(Check.CLIPPED, 0, 1, 1, 0, t), t);
            Check.due("its town", x.about(t, 5), t);
        }
    }

    /** Promise 3: "BAD: kind"; the kinds are 0 to 5. */
    private static void kindsOfLots() {
        NewSilver x = Realms.threeSorts();
        for (int kind = 0; kind < 6; kind++) {
            boolean plate = kind == Check.PLATE;
            Check.due("a lot of kind " + kind, x.lot(kind, 0, plate ? 0 : 1, 92, 0, 0), kind);
            Check.due("its kind", x.about(kind, 0), kind);
        }
        Edges.ends("kind", Realms::busy, (y, n) -> y.lot(n, 0, 1, 92, 0, 0), 0, 5, Check.BAD);
        Edges.ends("kind, without coins", Realms::busy, (y, n) -> y.lot(n, 0, 0, 92, 0, 0), 0, 5, Check.BAD);
    }

    /** Promise 3: "coins (1 .. 1000)"; "PLATE: no coins (0)". */
    private static void coinsOfLots() {
        Supplier<NewSilver> realm = Realms::busy;
        Edges.goes("plain coins", realm, (x, n) -> x.lot(Check.PLAIN, 0, n, n * 80, 0, 0), 1, 1000, Check.BAD);
        Edges.goes("clipped coins", realm, (x, n) -> x.lot(Check.CLIPPED, 0, n, n, 0, 0), 1, 1000, Check.BAD);
        Edges.goes("coins of a bag", realm, (x, n) -> x.lot(Check.BAG, 0, n, n * 92, 0, 0), 1, 1000, Check.BAD);
        Edges.goes("coins of plate", realm, (x, n) -> x.lot(Check.PLATE, 0, n, 92, 0, 0), 0, 0, Check.BAD);
        Edges.goes("new coins", realm, (x, n) -> x.lot(Check.NEW, 0, n, n * 92, 0, 0), 1, 1000, Check.BAD);
        Edges.goes("false coins", realm, (x, n) -> x.lot(Check.FALSE, 0, n, n, 0, 0), 1, 1000, Check.BAD);
    }

    /** Promise 3: "a weight (.. coins times LEAST .. coins times MOST, but for CLIPPED and PLATE)" and what each kind tells. */
    private static void weightsOfLots() {
        weights("plain", Check.PLAIN, 0, 10, 800, 920);
        weights("plain of one coin", Check.PLAIN, 0, 1, 80, 92);
        weights("plain of a thousand", Check.PLAIN, 0, 1000, 80000, 92000);
        weights("plain of all weights", Check.PLAIN, 2, 1000, 1000, 500000);
        weights("clipped", Check.CLIPPED, 0, 10, 10, 920);
        weights("clipped of a thousand", Check.CLIPPED, 0, 1000, 1000, 92000);
        weights("a bag", Check.BAG, 0, 10, 800, 920);
        weights("plate", Check.PLATE, 0, 0, 1, 100000);
        weights("plate of a heavy sort", Check.PLATE, 2, 0, 1, 100000);
        weights("new", Check.NEW, 0, 10, 920, 920);
        weights("new of a thousand", Check.NEW, 2, 1000, 500000, 500000);
        weights("false", Check.FALSE, 0, 10, 10, 920);
        weights("false of one coin", Check.FALSE, 0, 1, 1, 92);
    }

    private static void weights(String what, int kind, int sort, int coins, int low, int high) {
        Edges.goes("weight, " + what + ":", Realms::busy, (x, n) -> x.lot(kind, sort, coins, n, 0, 0), low, high, Check.BAD);
        NewSilver x = Realms.threeSorts();
        x.lot(kind, sort, coins, low, 0, 0);
        x.lot(kind, sort, coins, high, 0, 0);
        Check.due("the least weight, " + what, x.about(0, 3), low);
        Check.due("the most weight, " + what, x.about(1, 3), high);
    }

    /** Promise 3: "fine: of PLATE and FALSE ones, of others 0". */
    private static void finesOfLots() {
        int[] most = {0, 0, 0, 1000, 0, 1000};
        for (int k = 0; k < 6; k++) {
            int kind = k;
            int coins = kind == Check.PLATE ? 0 : 10;
            Edges.goes("fine of kind " + kind + ":", Realms::busy, (x, n) -> x.lot(kind, 0, coins, 920, n, 0),
                0, most[kind], Check.BAD);
        }
        NewSilver x = Realms.threeSorts();
        int[][] fines = {{Check.PLATE, 0}, {Check.PLATE, 1000}, {Check.FALSE, 0}, {Check.FALSE, 1000}};
        for (int l = 0; l < fines.length; l++) {
            x.lot(fines[l][0], 1, fines[l][0] == Check.PLATE ? 0 : 1, 40, fines[l][1], 0);
            Check.due("a fine of its own", x.about(l, 4), fines[l][1]);
        }
    }

    /** Promise 3: "LOTS are numbered from 0 on, 30 at most"; "FULL". */
    private static void thirtyLots() {
        NewSilver x = Realms.threeSorts();
        for (int l = 0; l < 30; l++) {
            Check.due("lot", x.lot(Check.CLIPPED, 0, 1, l + 1, 0, 0), l);
            Check.due("lots", x.count(1), l + 1);
        }
        for (int l = 0; l < 30; l++) {
            Check.due("its weight", x.about(l, 3), l + 1);
        }
        Edges.refused("one of 31", Realms::thirtyLots, y -> y.lot(Check.PLAIN, 0, 1, 80, 0, 0), Check.FULL);
        Edges.refused("plate, of 31", Realms::thirtyLots, y -> y.lot(Check.PLATE, 0, 0, 1, 0, 0), Check.FULL);
    }

    private static void firstRefusalOfLots() {
        for (Supplier<NewSilver> realm : List.<Supplier<NewSilver>>of(Realms::busy, Realms::thirtyLots)) {
            Edges.refused("no sort, bad kind", realm, x -> x.lot(6, 3, 1, 80, 0, 0), Check.NONE);
            Edges.refused("no town, bad kind", realm, x -> x.lot(-1, 0, 1, 80, 0, 6), Check.NONE);
            Edges.refused("no sort, bad coins", realm, x -> x.lot(Check.PLAIN, 3, 0, 80, 0, 0), Check.NONE);
            Edges.refused("no town, bad weight", realm, x -> x.lot(Check.PLAIN, 0, 1, 79, 0, -1), Check.NONE);
            Edges.refused("no sort, bad fine", realm, x -> x.lot(Check.PLAIN, -1, 1, 80, 1, 0), Check.NONE);
            Edges.refused("no sort", realm, x -> x.lot(Check.PLAIN, 3, 1, 80, 0, 0), Check.NONE);
            Edges.refused("no town", realm, x -> x.lot(Check.PLAIN, 0, 1, 80, 0, 6), Check.NONE);
            Edges.refused("bad kind", realm, x -> x.lot(6, 0, 1, 80, 0, 0), Check.BAD);
            Edges.refused("bad coins", realm, x -> x.lot(Check.CLIPPED, 0, 1001, 1001, 0, 0), Check.BAD);
            Edges.refused("bad weight", realm, x -> x.lot(Check.PLAIN, 0, 1, 79, 0, 0), Check.BAD);
            Edges.refused("bad fine", realm, x -> x.lot(Check.PLAIN, 0, 1, 80, 1, 0), Check.BAD);
        }
    }

    /** Promise 4: "its weight as it is (0 .. coins times MOST, coins at least): 1 if it is below coins times LEAST". */
    private static void weightsOfBags() {
        Edges.goes("weight found in a bag", Realms::busy, (x, n) -> x.open(Realms.BAG_IN_TOWN, n), 20, 920, Check.BAD);
        Edges.refused("no weight in a bag", Realms::busy, x -> x.open(Realms.BAG_IN_TOWN, 0), Check.BAD);
        opened(Realms.BAG_IN_TOWN, 20, 1);
        opened(Realms.BAG_IN_TOWN, 799, 1);
        opened(Realms.BAG_IN_TOWN, 800, 0);
        opened(Realms.BAG_IN_TOWN, 859, 0);
        opened(Realms.BAG_IN_TOWN, 860, 0);
        opened(Realms.BAG_IN_TOWN, 920, 0);
        opened(Realms.BAG_IN_CHEST, 319, 1);
        opened(Realms.BAG_IN_CHEST, 320, 0);
        opened(Realms.BAG_AT_MINT, 159, 1);
        opened(Realms.BAG_AT_MINT, 160, 0);
    }

    private static void opened(int l, int weight, int want) {
        NewSilver x = Realms.busy();
        long others = x.all() - x.silver(l);
        Check.due("a bag opened with " + weight, x.open(l, weight), want);
        Check.due("its kind", x.about(l, 0), want == 1 ? Check.CLIPPED : Check.PLAIN);
        Check.due("its weight", x.about(l, 3), weight);
        Check.due("its silver", x.silver(l), (long) weight * x.about(l, 4));
        Check.due("all", x.all(), others + x.silver(l));
        Check.due("opened, drawn", x.drawn(l, 0, 0, 0), x.about(l, 2) * (want == 1 ? 1 : x.about(l, 1) == 1 ? 40 : 80));
        Check.due("opened again", x.open(l, weight), Check.STATE);
    }

    /** With a LEAST of one grain no weight that is not BAD is below. */
    private static void bagsOfOneCoin() {
        int[][] dues = {{1, 1, 0}, {1, 500, 0}, {2, 1, 1}, {2, 2, 0}, {500, 499, 1}, {500, 500, 0}};
        for (int[] due : dues) {
            NewSilver x = new NewSilver();
            x.sort(due[0], 500, 0, 1);
            x.lot(Check.BAG, 0, 1, 500, 0, 0);
            Check.due("one coin of least " + due[0] + " with " + due[1], x.open(0, due[1]), due[2]);
        }
        NewSilver x = new NewSilver();
        x.sort(500, 500, 1000, 1);
        x.lot(Check.BAG, 0, 1000, 500000, 0, 0);
        Check.due("a grain too much in the greatest bag", x.open(0, 500001), Check.BAD);
        Check.due("a grain less than coins", x.open(0, 999), Check.BAD);
        Check.due("a grain missing in the greatest bag", x.open(0, 499999), 1);
    }

    /** Promise 4: "STATE: it is no sealed BAG". */
    private static void noSealedBag() {
        int[][] others = {{Realms.IN_TOWN, 860}, {Realms.CLIPPED_ONE, 500}, {Realms.NEW_ONE, 460}, {Realms.FALSE_ONE, 100},
            {Realms.FOUND_FALSE, 300}, {Realms.PLATE_IN_TOWN, 0}, {Realms.MELTED_PLATE, 0}, {Realms.MELTED_BAG, 250},
            {Realms.MELTED_BAG, 3}, {Realms.MELTED_BAG, 276}, {Realms.STRUCK, 276}, {Realms.TO_MINT, 700}};
        for (int[] other : others) {
            Edges.refused("open lot " + other[0], Realms::busy, x -> x.open(other[0], other[1]), Check.STATE);
        }
    }

    /** Promise 4: "NONE; BAD: weight; STATE", of several the first one told. */
    private static void firstRefusalOfOpening() {
        Edges.ends("lot opened", Realms::busy, (x, n) -> x.open(n, 20), 0, Realms.LOTS_OF_BUSY - 1, Check.NONE);
        Edges.ends("lot opened, bad", Realms::busy, (x, n) -> x.open(n, -1), 0, Realms.LOTS_OF_BUSY - 1, Check.NONE);
        int[][] others = {{Realms.IN_TOWN, 9}, {Realms.IN_TOWN, 921}, {Realms.CLIPPED_ONE, 9}, {Realms.NEW_ONE, 461},
            {Realms.FALSE_ONE, 2}, {Realms.FALSE_ONE, 277}, {Realms.PLATE_IN_TOWN, -1}, {Realms.PLATE_IN_TOWN, 1},
            {Realms.PLATE_IN_TOWN, 77}, {Realms.MELTED_BAG, 2}, {Realms.MELTED_BAG, 277}, {Realms.MELTED_PLATE, 3000}};
        for (int[] other : others) {
            Edges.refused("bad, no bag " + other[0], Realms::busy, x -> x.open(other[0], other[1]), Check.BAD);
        }
        Supplier<NewSilver> opened = () -> {
            NewSilver x = Realms.busy();
            x.open(Realms.BAG_IN_TOWN, 860);
            return x;
        };
        Edges.refused("opened before", opened, x -> x.open(Realms.BAG_IN_TOWN, 20), Check.STATE);
        Edges.refused("opened before, bad", opened, x -> x.open(Realms.BAG_IN_TOWN, 19), Check.BAD);
        Edges.refused("opened before, bad", opened, x -> x.open(Realms.BAG_IN_TOWN, 921), Check.BAD);
    }

    /** Promise 5: what 0 to 10. "NONE." */
    private static void whatIsAskedOfLots() {
        Edges.goes("about lot", Realms::busy, (x, n) -> x.about(n, 0), 0, Realms.LOTS_OF_BUSY - 1, Check.NONE);
        Edges.goes("about lot of thirty", Realms::thirtyLots, (x, n) -> x.about(n, 0), 0, 29, Check.NONE);
        Edges.goes("about what", Realms::busy, (x, n) -> x.about(0, n), 0, 10, Check.NONE);
        Edges.refused("about no lot, no what", Realms::busy, x -> x.about(Realms.LOTS_OF_BUSY, 11), Check.NONE);
        int[] plain = {Check.PLAIN, 0, 10, 860, 925, 0, Check.NONE, Check.NONE, 0, 0, 0};
        int[] plate = {Check.PLATE, 1, 0, 77, 1000, 2, Check.NONE, Check.NONE, 0, 0, 0};
        NewSilver x = Realms.busy();
        for (int what = 0; what < 11; what++) {
            Check.due("about a plain one " + what, x.about(Realms.IN_TOWN, what), plain[what]);
            Check.due("about plate " + what, x.about(Realms.PLATE_IN_TOWN, what), plate[what]);
        }
    }

    /** Promise 5: 5 the TOWN, 6 the MINT, 7 the day (NONE: it is there, or MELTED), 8 MELTED, 9 in THE CHEST, 10 found. */
    private static void whereLotsAre() {
        int no = Check.NONE;
        int[][] dues = {{Realms.IN_TOWN, 0, no, no, 0, 0, 0}, {Realms.MELTED_PLATE, no, no, no, 1, 0, 0},
            {Realms.FOUND_FALSE, no, 0, no, 0, 0, 1}, {Realms.FALSE_ONE, 2, no, no, 0, 0, 0},
            {Realms.BAG_IN_CHEST, 3, no, no, 0, 1, 0}, {Realms.TO_MINT, no, 2, 40, 0, 0, 0},
            {Realms.BAG_AT_MINT, no, 0, no, 0, 0, 0}, {Realms.MELTED_BAG, no, no, no, 1, 0, 0},
            {Realms.TO_TOWN, 1, no, 15, 0, 0, 0}, {Realms.STRUCK, no, 0, no, 0, 0, 0}};
        NewSilver x = Realms.busy();
        for (int[] due : dues) {
            for (int i = 1; i < due.length; i++) {
                Check.due("lot " + due[0] + ", what " + (4 + i), x.about(due[0], 4 + i), due[i]);
            }
        }
    }

    /** "on a ROAD to one of these (till a day)": on that day it is there. */
    private static void roadsTillADay() {
        NewSilver x = Realms.busy();
        int[][] dues = {{14, 15, 40, 2}, {15, Check.NONE, 40, 1}, {39, Check.NONE, 40, 1}, {40, Check.NONE, Check.NONE, 0}};
        for (int[] due : dues) {
            x.today(due[0]);
            Check.due("to a town, on day " + due[0], x.about(Realms.TO_TOWN, 7), due[1]);
            Check.due("to a mint, on day " + due[0], x.about(Realms.TO_MINT, 7), due[2]);
            Check.due("on roads, on day " + due[0], x.count(5), due[3]);
            Check.due("the town stays", x.about(Realms.TO_TOWN, 5), 1);
            Check.due("the mint stays", x.about(Realms.TO_MINT, 6), 2);
        }
    }

    /** Promise 6: "SILVER of a LOT: its weight times its FINE (of its SORT, or own)"; "-1: NONE". */
    private static void silverOfLots() {
        Edges.goes("silver of lot", Realms::busy, (x, n) -> x.silver(n), 0, Realms.LOTS_OF_BUSY - 1, -1);
        Edges.goes("silver of thirty", Realms::thirtyLots, (x, n) -> x.silver(n), 0, 29, -1);
        NewSilver x = new NewSilver();
        x.sort(1, 500, 1000, 1);
        x.sort(1, 500, 0, 1);
        x.lot(Check.PLAIN, 0, 1, 1, 0, 0);
        x.lot(Check.NEW, 0, 1000, 500000, 0, 0);
        x.lot(Check.NEW, 1, 1000, 500000, 0, 0);
        x.lot(Check.PLATE, 1, 0, 100000, 1000, 0);
        x.lot(Check.PLATE, 0, 0, 100000, 0, 0);
        x.lot(Check.FALSE, 0, 1, 1, 1, 0);
        x.lot(Check.FALSE, 1, 1000, 500000, 999, 0);
        long[] dues = {1000, 500000000, 0, 100000000, 0, 1, 499500000};
        for (int l = 0; l < dues.length; l++) {
            Check.due("silver of lot " + l, x.silver(l), dues[l]);
        }
    }

    /** Promise 7: "TODAY becomes d, not less than it was: what it was. BAD."; "TODAY is a day (0 .. 999)". */
    private static void days() {
        Edges.goes("the first day", NewSilver::new, (x, n) -> x.today(n), 0, 999, Check.BAD);
        Edges.goes("a day", Realms::busy, (x, n) -> x.today(n), Realms.DAY_OF_BUSY, 999, Check.BAD);
        Supplier<NewSilver> atTheEnd = () -> {
            NewSilver x = Realms.busy();
            x.today(999);
            return x;
        };
        Edges.goes("the last day", atTheEnd, (x, n) -> x.today(n), 999, 999, Check.BAD);
        Edges.refused("the day before the last", atTheEnd, x -> x.today(998), Check.BAD);
        NewSilver x = new NewSilver();
        int[][] dues = {{0, 0}, {1, 0}, {1, 1}, {998, 1}, {999, 998}, {999, 999}};
        for (int[] due : dues) {
            Check.due("today " + due[0], x.today(due[0]), due[1]);
            Check.due("it is", x.count(3), due[0]);
        }
    }
}
