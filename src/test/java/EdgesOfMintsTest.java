import java.util.function.Supplier;

/** The boundary cases of promises 19 to 27, each beside the words that name it. */
public final class EdgesOfMintsTest {
    public static void main(String[] args) {
        daysOfRoads();
        eitherWay();
        sendRefused();
        sendOnTheDay();
        bringRefused();
        bringOnTheDay();
        beyondTheLastDay();
        meltRefused();
        meltOnTheDay();
        furnaceJustEnough();
        furnaceOfADay();
        falseWhateverTheFurnace();
        falseOfItsSort();
        grainsOfFurnaces();
        refineRefused();
        refineJustTheLaw();
        refineTheMost();
        refinedTillMelted();
        strikeNumbers();
        strikeJustAsMuch();
        strikeRefusedByState();
        strikeFull();
        whatIsAskedOfMints();
        addedInAll();
        silverOfAll();
        Check.end();
    }

    /** Promise 19: "so many days (1 .. 30; 5 at first)"; "what they were. NONE; BAD". */
    private static void daysOfRoads() {
        Edges.goes("town of a road", Realms::busy, (x, n) -> x.road(n, 0, 1), 0, 5, Check.NONE);
        Edges.goes("mint of a road", Realms::busy, (x, n) -> x.road(0, n, 1), 0, 2, Check.NONE);
        Edges.goes("days of a road", Realms::busy, (x, n) -> x.road(0, 0, n), 1, 30, Check.BAD);
        Edges.refused("no town, bad", Realms::busy, x -> x.road(6, 0, 0), Check.NONE);
        Edges.refused("no mint, bad", Realms::busy, x -> x.road(0, 3, 31), Check.NONE);
        Edges.refused("no town, no mint", Realms::busy, x -> x.road(-1, -1, 1), Check.NONE);
        NewSilver x = new NewSilver();
        for (int t = 0; t < 6; t++) {
            for (int m = 0; m < 3; m++) {
                Check.due("at first", x.road(t, m, 3 * t + m + 1), 5);
            }
        }
        for (int t = 0; t < 6; t++) {
            for (int m = 0; m < 3; m++) {
                Check.due("what they were", x.road(t, m, 30), 3 * t + m + 1);
                Check.due("what they were", x.road(t, m, 1), 30);
                Check.due("what they were", x.road(t, m, 1), 1);
            }
        }
    }

    /** "A ROAD between a TOWN and a MINT takes so many days .., either way." */
    private static void eitherWay() {
        for (int days : new int[] {1, 2, 29, 30}) {
            for (int t = 0; t < 6; t++) {
                NewSilver x = Realms.threeSorts();
                x.lot(Check.PLAIN, 0, 1, 80, 0, t);
                x.road(t, t % 3, days);
                Check.due("there", x.send(0, t % 3), days);
                x.today(days);
                Check.due("and back", x.bring(0, t), 2 * days);
                x.today(2 * days);
                Check.due("and there by another road", x.send(0, (t + 1) % 3), 2 * days + 5);
            }
        }
    }

    /** Promise 20: "NONE; STATE: it is in no TOWN, or in THE CHEST". */
    private static void sendRefused() {
        Edges.ends("lot sent", Realms::busy, (x, n) -> x.send(n, 0), 0, Realms.LOTS_OF_BUSY - 1, Check.NONE);
        Edges.goes("mint to which it goes", Realms::busy, (x, n) -> x.send(Realms.IN_TOWN, n), 0, 2, Check.NONE);
        int[] nowhere = {Realms.MELTED_PLATE, Realms.MELTED_BAG, Realms.FOUND_FALSE, Realms.BAG_IN_CHEST, Realms.TO_MINT,
            Realms.BAG_AT_MINT, Realms.TO_TOWN, Realms.STRUCK};
        for (int l : nowhere) {
            Edges.refused("lot " + l + " sent", Realms::busy, x -> x.send(l, 1), Check.STATE);
            Edges.refused("lot " + l + " sent to no mint", Realms::busy, x -> x.send(l, 3), Check.NONE);
            Edges.refused("lot " + l + " sent to no mint", Realms::busy, x -> x.send(l, -1), Check.NONE);
        }
        int[] inTowns = {Realms.IN_TOWN, Realms.CLIPPED_ONE, Realms.BAG_IN_TOWN, Realms.NEW_ONE, Realms.FALSE_ONE,
            Realms.PLATE_IN_TOWN};
        for (int l : inTowns) {
            Check.due("lot " + l + " sent", Realms.busy().send(l, 1), 16);
        }
        Check.due("the last of thirty", Realms.thirtyLots().send(29, 1), 16);
    }

    private static void sendOnTheDay() {
        NewSilver x = Realms.busy();
        x.today(14);
        Check.due("the day before it comes", x.send(Realms.TO_TOWN, 1), Check.STATE);
        x.today(15);
        Check.due("the day on which it comes", x.send(Realms.TO_TOWN, 1), 22);
        Check.due("no town any more", x.about(Realms.TO_TOWN, 5), Check.NONE);
        Check.due("its mint", x.about(Realms.TO_TOWN, 6), 1);
        Check.due("given out of the chest", x.give(3) == 1 ? x.send(Realms.BAG_IN_CHEST, 1) : 0, 20);
    }

    /** Promise 21: "NONE; STATE: it is at no MINT". */
    private static void bringRefused() {
        Edges.ends("lot brought", Realms::busy, (x, n) -> x.bring(n, 0), 0, Realms.LOTS_OF_BUSY - 1, Check.NONE);
        Edges.goes("town to which it goes", Realms::busy, (x, n) -> x.bring(Realms.STRUCK, n), 0, 5, Check.NONE);
        int[] elsewhere = {Realms.IN_TOWN, Realms.MELTED_PLATE, Realms.MELTED_BAG, Realms.BAG_IN_CHEST, Realms.TO_MINT,
            Realms.TO_TOWN, Realms.PLATE_IN_TOWN};
        for (int l : elsewhere) {
            Edges.refused("lot " + l + " brought", Realms::busy, x -> x.bring(l, 1), Check.STATE);
            Edges.refused("lot " + l + " brought to no town", Realms::busy, x -> x.bring(l, 6), Check.NONE);
            Edges.refused("lot " + l + " brought to no town", Realms::busy, x -> x.bring(l, -1), Check.NONE);
        }
        for (int l : new int[] {Realms.FOUND_FALSE, Realms.BAG_AT_MINT, Realms.STRUCK}) {
            Check.due("lot " + l + " brought", Realms.busy().bring(l, 1), 16);
        }
    }

    private static void bringOnTheDay() {
        NewSilver x = Realms.busy();
        x.today(39);
        Check.due("the day before it comes", x.bring(Realms.TO_MINT, 4), Check.STATE);
        x.today(40);
        Check.due("the day on which it comes", x.bring(Realms.TO_MINT, 4), 70);
        Check.due("no mint any more", x.about(Realms.TO_MINT, 6), Check.NONE);
        Check.due("its town", x.about(Realms.TO_MINT, 5), 4);
    }

    /** Days go to 999: a lot that comes there later never does. */
    private static void beyondTheLastDay() {
        NewSilver x = Realms.busy();
        x.today(968);
        x.road(0, 0, 30);
        Check.due("on the last day but one", x.send(Realms.IN_TOWN, 0), 998);
        x.today(969);
        Check.due("on the last day", x.send(Realms.CLIPPED_ONE, 0), 999);
        x.today(970);
        Check.due("beyond it", x.send(Realms.NEW_ONE, 0), 1000);
        x.today(999);
        Check.due("has come", x.melt(Realms.CLIPPED_ONE), 1);
        Check.due("has not", x.melt(Realms.NEW_ONE), Check.STATE);
        Check.due("its day", x.about(Realms.NEW_ONE, 7), 1000);
        Check.due("far beyond it", x.bring(Realms.IN_TOWN, 0), 1029);
        Check.due("on roads", x.count(5), 2);
    }

    /** Promise 22: "NONE; STATE: it is at no MINT yet". */
    private static void meltRefused() {
        Edges.ends("lot melted", Realms::busy, (x, n) -> x.melt(n), 0, Realms.LOTS_OF_BUSY - 1, Check.NONE);
        int[] elsewhere = {Realms.IN_TOWN, Realms.BAG_IN_TOWN, Realms.NEW_ONE, Realms.FALSE_ONE, Realms.BAG_IN_CHEST,
            Realms.TO_MINT, Realms.TO_TOWN, Realms.MELTED_BAG, Realms.MELTED_PLATE, Realms.PLATE_IN_TOWN};
        for (int l : elsewhere) {
            Edges.refused("lot " + l + " melted", Realms::busy, x -> x.melt(l), Check.STATE);
            Edges.refused("lot " + l + " melted, no furnace", EdgesOfMintsTest::smallFurnaces, x -> x.melt(l), Check.STATE);
        }
        Edges.refused("too much for the furnace", EdgesOfMintsTest::smallFurnaces, x -> x.melt(Realms.STRUCK), Check.FULL);
        Check.due("a lot at a mint", Realms.busy().melt(Realms.STRUCK), 1);
    }

    private static NewSilver smallFurnaces() {
        NewSilver x = Realms.busy();
        for (int m = 0; m < 3; m++) {
            x.furnace(m, 1);
        }
        return x;
    }

    private static void meltOnTheDay() {
        NewSilver x = Realms.busy();
        x.furnace(2, 700);
        x.today(39);
        Check.due("the day before it comes", x.melt(Realms.TO_MINT), Check.STATE);
        x.today(40);
        Check.due("the day on which it comes", x.melt(Realms.TO_MINT), 1);
        Check.due("grains", x.mint(2, 0), 700);
        Check.due("silver", x.mint(2, 1), 700000);
        Check.due("melted ones", x.count(4), 3);
    }

    /** Plate of such weights, all at mint 0 on the fifth day. */
    private static NewSilver atMint(int... weights) {
        NewSilver x = Realms.threeSorts();
        for (int l = 0; l < weights.length; l++) {
            x.lot(Check.PLATE, 0, 0, weights[l], 925, 0);
            x.send(l, 0);
        }
        x.today(5);
        return x;
    }

    /** "FURNACE: so many grains at most are melted in a day (100000 at first)"; "FULL: the FURNACE melts no more TODAY". */
    private static void furnaceJustEnough() {
        Check.due("just enough at first", atMint(100000).melt(0), 1);
        NewSilver x = new NewSilver();
        x.sort(1, 500, 925, 1);
        x.lot(Check.PLAIN, 0, 1000, 100001, 0, 0);
        x.send(0, 0);
        x.today(5);
        Check.due("a grain too much at first", x.melt(0), Check.FULL);
        Check.due("a grain more", x.furnace(0, 100001), 100000);
        Check.due("just enough", x.melt(0), 1);
        NewSilver y = atMint(60000, 40000, 40001, 1);
        Check.due("the first", y.melt(0), 1);
        Check.due("a grain too much", y.melt(2), Check.FULL);
        Check.due("just enough", y.melt(1), 1);
        Check.due("not a grain more", y.melt(3), Check.FULL);
        Check.due("melted today", y.mint(0, 5), 100000);
        Check.due("grains", y.mint(0, 0), 100000);
        NewSilver z = atMint(1, 1, 2);
        z.furnace(0, 1);
        Check.due("two of one", z.melt(2), Check.FULL);
        Check.due("one of one", z.melt(0), 1);
        Check.due("one more", z.melt(1), Check.FULL);
        greatFurnace();
    }

    private static void greatFurnace() {
        NewSilver x = new NewSilver();
        x.sort(1, 500, 925, 1);
        int[] weights = {500000, 499999, 2, 1, 1};
        for (int l = 0; l < weights.length; l++) {
            x.lot(Check.CLIPPED, 0, l < 2 ? 1000 : 1, weights[l], 0, 0);
            x.send(l, 0);
        }
        x.today(5);
        x.furnace(0, 1000000);
        Check.due("half a million", x.melt(0), 1);
        Check.due("a million but a grain", x.melt(1), 1);
        Check.due("two grains", x.melt(2), Check.FULL);
        Check.due("the last grain", x.melt(3), 1);
        Check.due("a grain more", x.melt(4), Check.FULL);
        Check.due("melted today", x.mint(0, 5), 1000000);
    }

    /** A furnace begins anew on each day, and counts what was melted today when it is made smaller or greater. */
    private static void furnaceOfADay() {
        Supplier<NewSilver> fullFurnace = () -> {
            NewSilver x = atMint(70, 30, 1, 100);
            x.furnace(0, 100);
            x.melt(0);
            x.melt(1);
            return x;
        };
        Edges.refused("no more today", fullFurnace, x -> x.melt(2), Check.FULL);
        NewSilver x = fullFurnace.get();
        x.today(5);
        Check.due("the same day", x.melt(2), Check.FULL);
        x.furnace(0, 99);
        Check.due("smaller than what was melted", x.melt(2), Check.FULL);
        x.furnace(0, 101);
        Check.due("a grain greater", x.melt(2), 1);
        Check.due("melted today", x.mint(0, 5), 101);
        x.furnace(0, 100);
        x.today(6);
        Check.due("none yet on the next day", x.mint(0, 5), 0);
        Check.due("all on the next day", x.melt(3), 1);
        Check.due("melted today", x.mint(0, 5), 100);
        Check.due("grains of both days", x.mint(0, 0), 201);
        x.today(999);
        Check.due("none on the last day", x.mint(0, 5), 0);
    }

    /** Promise 22: "0 if it is FALSE (found or not) .. (it stays there, whatever the FURNACE)". */
    private static void falseWhateverTheFurnace() {
        NewSilver x = smallFurnaces();
        long pot = x.mint(0, 0);
        Check.due("found before, no furnace", x.melt(Realms.FOUND_FALSE), 0);
        x.send(Realms.FALSE_ONE, 0);
        x.today(15);
        Check.due("on its road", x.melt(Realms.FALSE_ONE), Check.STATE);
        Check.due("not found on its road", x.about(Realms.FALSE_ONE, 10), 0);
        x.today(16);
        Check.due("not found before, no furnace", x.melt(Realms.FALSE_ONE), 0);
        Check.due("found", x.about(Realms.FALSE_ONE, 10), 1);
        Check.due("it stays there", x.about(Realms.FALSE_ONE, 6), 0);
        Check.due("not melted", x.about(Realms.FALSE_ONE, 8), 0);
        Check.due("the pot stays", x.mint(0, 0), pot);
        Check.due("refined stays", x.mint(0, 2), 1);
        Check.due("nothing was melted", x.mint(0, 5), 0);
        Check.due("melted ones", x.count(4), 2);
        Edges.changesNothing("found before, once more", Realms::busy, y -> y.melt(Realms.FOUND_FALSE), 0);
    }

    /** Promise 22: "(all LOTS of KIND FALSE of its SORT are ..)", wherever they are. */
    private static void falseOfItsSort() {
        NewSilver x = Realms.threeSorts();
        int[][] lots = {{Check.FALSE, 0, 0}, {Check.FALSE, 1, 0}, {Check.FALSE, 0, 1}, {Check.FALSE, 0, 2},
            {Check.CLIPPED, 0, 0}, {Check.FALSE, 0, 3}, {Check.BAG, 0, 0}};
        for (int[] l : lots) {
            x.lot(l[0], l[1], 1, l[0] == Check.BAG ? 80 : 40, 0, l[2]);
        }
        x.pay(2, 1);
        x.send(0, 0);
        x.send(1, 0);
        x.today(5);
        x.send(5, 2);
        int[] found = {1, 0, 1, 1, 0, 1, 0};
        Check.due("found", x.melt(0), 0);
        for (int l = 0; l < found.length; l++) {
            Check.due("found, lot " + l, x.about(l, 10), found[l]);
        }
        Check.due("the other sort", x.melt(1), 0);
        Check.due("found then", x.about(1, 10), 1);
        Check.due("one that is made later", x.lot(Check.FALSE, 0, 1, 1, 0, 0), 7);
        Check.due("is not found yet", x.about(7, 10), 0);
    }

    /** Promise 23: "NONE; BAD: not 1 .. 1000000". */
    private static void grainsOfFurnaces() {
        Edges.goes("mint of a furnace", Realms::busy, (x, n) -> x.furnace(n, 1), 0, 2, Check.NONE);
        Edges.goes("grains of a furnace", Realms::busy, (x, n) -> x.furnace(1, n), 1, 1000000, Check.BAD);
        Edges.refused("no mint, bad", Realms::busy, x -> x.furnace(3, 0), Check.NONE);
        Edges.refused("no mint, bad", Realms::busy, x -> x.furnace(-1, 1000001), Check.NONE);
        NewSilver x = new NewSilver();
        for (int m = 0; m < 3; m++) {
            Check.due("at first", x.furnace(m, 1), 100000);
            Check.due("the least", x.furnace(m, 1000000), 1);
            Check.due("the most", x.furnace(m, m + 2), 1000000);
        }
        for (int m = 0; m < 3; m++) {
            Check.due("of each mint", x.furnace(m, 1), m + 2);
        }
    }

    /** Promise 24: "NONE; STATE: THE POT is empty". */
    private static void refineRefused() {
        Edges.ends("mint refined", Realms::busy, (x, n) -> x.refine(n), 0, 2, Check.NONE);
        Edges.refused("nothing melted yet", Realms::busy, x -> x.refine(1), Check.STATE);
        Edges.refused("nothing melted yet", Realms::busy, x -> x.refine(2), Check.STATE);
        Supplier<NewSilver> struckEmpty = () -> {
            NewSilver x = atMint(92);
            x.melt(0);
            x.refine(0);
            x.strike(0, 0, 1);
            return x;
        };
        Check.due("struck empty", struckEmpty.get().mint(0, 0), 0);
        Edges.refused("struck empty", struckEmpty, x -> x.refine(0), Check.STATE);
        Supplier<NewSilver> notMelted = () -> atMint(92);
        Edges.refused("at the mint, but not melted", notMelted, x -> x.refine(0), Check.STATE);
        NewSilver x = pot(1, 0);
        Check.due("a grain of copper is a pot", x.refine(0), 13);
    }

    private static NewSilver pot(int grains, int fine) {
        NewSilver x = Realms.threeSorts();
        x.lot(Check.PLATE, 0, 0, grains, fine, 0);
        x.send(0, 0);
        x.today(5);
        x.melt(0);
        return x;
    }

    private static void refined(int grains, int fine, int copper, int treasury) {
        String what = grains + " grains of " + fine;
        NewSilver x = pot(grains, fine);
        long all = x.all();
        Check.due(what + ", not refined", x.mint(0, 2), 0);
        Check.due(what + ", added", x.refine(0), copper + treasury);
        Check.due(what + ", grains", x.mint(0, 0), grains + copper + treasury);
        Check.due(what + ", silver", x.mint(0, 1), 925L * (grains + copper + treasury));
        Check.due(what + ", refined", x.mint(0, 2), 1);
        Check.due(what + ", copper", x.mint(0, 3), copper);
        Check.due(what + ", treasury", x.mint(0, 4), treasury);
        Check.due(what + ", all", x.all(), all);
        Check.due(what + ", again", x.refine(0), 0);
        Check.due(what + ", grains again", x.mint(0, 0), grains + copper + treasury);
    }

    /** "as many grains of copper as leave it not less; .. the fewest grains of the treasury's SILVER with which it is not less". */
    private static void refineJustTheLaw() {
        refined(1, 925, 0, 0);
        refined(100000, 925, 0, 0);
        // A thousandth more than the law, then just less than a grain of copper takes, just as much, and a bit more.
        refined(1, 926, 0, 0);
        refined(924, 926, 0, 0);
        refined(925, 926, 1, 0);
        refined(926, 926, 1, 0);
        refined(1849, 926, 1, 0);
        refined(1850, 926, 2, 0);
        refined(12, 1000, 0, 0);
        refined(13, 1000, 1, 0);
        refined(37, 1000, 3, 0);
        // A thousandth less than the law, then just what a grain of the treasury mends, and a thousandth more.
        refined(1, 924, 0, 1);
        refined(75, 924, 0, 1);
        refined(76, 924, 0, 2);
        refined(150, 924, 0, 2);
        refined(151, 924, 0, 3);
        refined(3, 900, 0, 1);
        refined(1, 850, 0, 1);
        refined(1, 849, 0, 2);
        refined(3, 0, 0, 37);
        refined(1, 0, 0, 13);
    }

    private static void refineTheMost() {
        refined(100000, 1000, 8108, 0);
        refined(100000, 926, 108, 0);
        refined(100000, 924, 0, 1334);
        refined(100000, 0, 0, 1233334);
        NewSilver x = new NewSilver();
        x.sort(500, 500, 0, 1);
        x.furnace(0, 1000000);
        for (int l = 0; l < 30; l++) {
            x.lot(Check.NEW, 0, 1000, 500000, 0, 0);
            x.send(l, 0);
        }
        for (int l = 0; l < 30; l++) {
            x.today(5 + l / 2);
            Check.due("melted", x.melt(l), 1);
        }
        Check.due("as much of the treasury as there can be", x.refine(0), 185000000);
        Check.due("grains", x.mint(0, 0), 200000000);
        Check.due("silver", x.mint(0, 1), 185000000000L);
        Check.due("treasury", x.mint(0, 4), 185000000);
        Check.due("all", x.all(), 0);
    }

    /** "A POT is REFINED till something is melted into it." */
    private static void refinedTillMelted() {
        NewSilver x = atMint(1000, 10, 100000);
        x.lot(Check.FALSE, 0, 1, 50, 0, 0);
        x.melt(0);
        Check.due("melted", x.mint(0, 2), 0);
        x.refine(0);
        Check.due("refined", x.mint(0, 2), 1);
        Check.due("too much for the furnace", x.melt(2), Check.FULL);
        Check.due("refined still", x.mint(0, 2), 1);
        Check.due("struck", x.strike(0, 0, 1), 4);
        Check.due("refined still", x.mint(0, 2), 1);
        x.send(3, 0);
        x.today(10);
        Check.due("a false one", x.melt(3), 0);
        Check.due("refined still", x.mint(0, 2), 1);
        Check.due("something, of just the law", x.melt(1), 1);
        Check.due("refined no more", x.mint(0, 2), 0);
        Check.due("not struck", x.strike(0, 0, 1), Check.STATE);
        Check.due("refined again", x.refine(0), 0);
        Check.due("struck", x.strike(0, 0, 1), 5);
        Check.due("the other mints are not", x.mint(1, 2) + x.mint(2, 2), 0);
    }

    /** Promise 25: "NONE; BAD: coins (1 .. 1000), the SORT's FINE". */
    private static void strikeNumbers() {
        Supplier<NewSilver> realm = () -> {
            NewSilver x = atMint(100000);
            x.melt(0);
            x.refine(0);
            x.sort(80, 92, 924, 12);
            x.sort(80, 92, 926, 12);
            x.sort(1, 1, 925, 12);
            return x;
        };
        Edges.goes("coins struck", realm, (x, n) -> x.strike(0, 0, n), 1, 1000, Check.BAD);
        Edges.ends("mint that strikes", realm, (x, n) -> x.strike(n, 0, 1), 0, 2, Check.NONE);
        Edges.ends("sort struck", realm, (x, n) -> x.strike(0, n, 1), 0, 5, Check.NONE);
        Edges.refused("no mint, bad coins", realm, x -> x.strike(3, 0, 0), Check.NONE);
        Edges.refused("no mint, bad fine", realm, x -> x.strike(-1, 1, 1), Check.NONE);
        Edges.refused("no sort, bad coins", realm, x -> x.strike(0, 6, 1001), Check.NONE);
        for (int sort = 1; sort <= 4; sort++) {
            int s = sort;
            Edges.refused("fine of sort " + s, realm, x -> x.strike(0, s, 1), Check.BAD);
            Edges.refused("fine of sort " + s + ", an empty pot", realm, x -> x.strike(1, s, 1), Check.BAD);
        }
        Edges.refused("bad coins, an empty pot", realm, x -> x.strike(1, 0, 1001), Check.BAD);
        Check.due("just the law", realm.get().strike(0, 5, 1), 1);
    }

    /** "coins .., each MOST grains, as many as told: .. THE POT has so much less .. it must be REFINED and have as much". */
    private static void strikeJustAsMuch() {
        int[][] dues = {{92, 1, 1, 0}, {91, 1, Check.STATE, 91}, {93, 1, 1, 1}, {920, 10, 1, 0}, {919, 10, Check.STATE, 919},
            {92000, 1000, 1, 0}, {91999, 1000, Check.STATE, 91999}};
        for (int[] due : dues) {
            NewSilver x = pot(due[0], 925);
            x.refine(0);
            long all = x.all();
            Check.due("struck of " + due[0], x.strike(0, 0, due[1]), due[2]);
            Check.due("left of " + due[0], x.mint(0, 0), due[3]);
            Check.due("silver left of " + due[0], x.mint(0, 1), 925L * due[3]);
            Check.due("all of " + due[0], x.all(), all);
            Check.due("lots", x.count(1), due[2] == 1 ? 2 : 1);
        }
        NewSilver x = pot(92000, 925);
        x.refine(0);
        x.strike(0, 0, 1000);
        int[] due = {Check.NEW, 0, 1000, 92000, 925, Check.NONE, 0, Check.NONE, 0, 0, 0};
        for (int what = 0; what < due.length; what++) {
            Check.due("the new lot, what " + what, x.about(1, what), due[what]);
        }
        Check.due("melted again", x.melt(1), Check.FULL);
        x.today(6);
        Check.due("melted again on the next day", x.melt(1), 1);
    }

    /** Promise 25: "STATE: THE POT is not REFINED, has not as much". */
    private static void strikeRefusedByState() {
        Supplier<NewSilver> notRefined = () -> pot(1000, 925);
        Edges.refused("not refined", notRefined, x -> x.strike(0, 0, 1), Check.STATE);
        Edges.refused("not refined, bad", notRefined, x -> x.strike(0, 0, 0), Check.BAD);
        Edges.refused("empty", notRefined, x -> x.strike(1, 0, 1), Check.STATE);
        Supplier<NewSilver> isRefined = () -> {
            NewSilver x = pot(1000, 925);
            x.refine(0);
            return x;
        };
        Edges.refused("not as much", isRefined, x -> x.strike(0, 0, 11), Check.STATE);
        Edges.refused("not nearly as much", isRefined, x -> x.strike(0, 0, 1000), Check.STATE);
        Check.due("as much", isRefined.get().strike(0, 0, 10), 1);
    }

    /** Promise 25: "FULL", behind the others. */
    private static void strikeFull() {
        Supplier<NewSilver> full = Realms::thirtyLots;
        Edges.refused("one of 31", full, x -> x.strike(0, 0, 1), Check.FULL);
        Edges.refused("one of 31, not as much", full, x -> x.strike(0, 0, 1000), Check.STATE);
        Edges.refused("one of 31, empty", full, x -> x.strike(1, 0, 1), Check.STATE);
        Edges.refused("one of 31, bad coins", full, x -> x.strike(0, 0, 1001), Check.BAD);
        Edges.refused("one of 31, bad fine", full, x -> x.strike(0, 1, 1), Check.BAD);
        Edges.refused("one of 31, no sort", full, x -> x.strike(0, 3, 1), Check.NONE);
        Edges.refused("one of 31, no mint", full, x -> x.strike(3, 0, 1), Check.NONE);
        NewSilver x = Realms.busy();
        for (int l = Realms.LOTS_OF_BUSY; l < 30; l++) {
            Check.due("struck", x.strike(0, 0, 1), l);
        }
        Check.due("one of 31", x.strike(0, 0, 1), Check.FULL);
        Check.due("nor a lot", x.lot(Check.PLAIN, 0, 1, 80, 0, 0), Check.FULL);
    }

    /** Promise 26: what 0 to 5. "-1: NONE." */
    private static void whatIsAskedOfMints() {
        Edges.goes("mint asked", Realms::busy, (x, n) -> x.mint(n, 0), 0, 2, -1);
        Edges.goes("what of a mint", Realms::busy, (x, n) -> x.mint(0, n), 0, 5, -1);
        Edges.refused("no mint, no what", Realms::busy, x -> x.mint(3, 6), -1);
        NewSilver x = new NewSilver();
        for (int m = 0; m < 3; m++) {
            for (int what = 0; what < 6; what++) {
                Check.due("of a new mint", x.mint(m, what), 0);
            }
        }
    }

    /** Promise 26: "3 copper added in all, 4 SILVER of the treasury added in all (grains), 5 grains melted TODAY". */
    private static void addedInAll() {
        NewSilver x = Realms.threeSorts();
        int[][] rounds = {{13, 1000, 1, 0}, {75, 924, 1, 1}, {13, 1000, 2, 1}, {76, 924, 2, 3}};
        for (int l = 0; l < rounds.length; l++) {
            x.lot(Check.PLATE, 0, 0, rounds[l][0], rounds[l][1], 0);
            x.today(x.send(l, 0));
            Check.due("melted today", x.mint(0, 5), 0);
            x.melt(l);
            Check.due("melted today", x.mint(0, 5), rounds[l][0]);
            x.refine(0);
            Check.due("refining melts nothing", x.mint(0, 5), rounds[l][0]);
            Check.due("copper in all", x.mint(0, 3), rounds[l][2]);
            Check.due("treasury in all", x.mint(0, 4), rounds[l][3]);
        }
        Check.due("all", x.all(), 2 * 13000 + 151 * 924);
        Check.due("of the other mints", x.mint(1, 3) + x.mint(1, 4) + x.mint(2, 3) + x.mint(2, 4), 0);
    }

    /** Promise 27: "LOTS that are not MELTED and .. POTS, less what the treasury added, and what went off to it counted again". */
    private static void silverOfAll() {
        Check.due("of nothing", new NewSilver().all(), 0);
        Check.due("of sorts alone", Realms.threeSorts().all(), 0);
        Check.due("of copper alone", pot(100, 0).all(), 0);
        NewSilver x = Realms.busy();
        long all = (860 + 500 + 460 + 340 + 170 + 250) * 925L + (860 + 130) * 900L + 3000 * 960 + 300 * 100 + 100 * 50
            + 700 * 1000 + 77 * 1000;
        Check.due("of all that there can be", x.all(), all);
        x.melt(Realms.BAG_AT_MINT);
        x.refine(0);
        x.pay(0, 10);
        x.give(3);
        x.send(Realms.PLATE_IN_TOWN, 1);
        x.bring(Realms.FOUND_FALSE, 2);
        x.today(40);
        x.melt(Realms.PLATE_IN_TOWN);
        x.refine(1);
        x.strike(0, 0, 30);
        Check.due("it is kept", x.all(), all);
        NewSilver y = new NewSilver();
        y.sort(500, 500, 1000, 1);
        for (int l = 0; l < 30; l++) {
            y.lot(Check.NEW, 0, 1000, 500000, 0, l % 6);
        }
        Check.due("the most that there can be", y.all(), 15000000000L);
    }
}
