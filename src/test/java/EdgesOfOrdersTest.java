import java.util.function.Supplier;

/** The boundary cases of promises 8 to 13, each beside the words that name it. */
public final class EdgesOfOrdersTest {
    private static final String LONGEST = "7 is 999 by weight 9999;6 is 999 by weight 9999;5 is 999 by weight 9999;"
        + "4 is 999 by weight 9999;3 is 999 by weight 9999;2 is 999 by weight 9999";

    public static void main(String[] args) {
        bytesOfACall();
        lowestBytesHighestFirst();
        bytesOfTheTape();
        clausesOfAnOrder();
        sortsOfClauses();
        digits();
        blanks();
        everyByteAtEveryPlace();
        tapesThatEndTooEarly();
        tenOrders();
        tapeAfterAnOrder();
        ordersAndTownsTold();
        toldOnce();
        ordersAndTownsInForce();
        latestByThen();
        passRefused();
        passCut();
        passByClause();
        passOfKinds();
        passOfChests();
        lightRefused();
        lightJustNot();
        lightByWhat();
        Check.end();
    }

    /** Promise 8: "BAD: n not 1 .. 8; FULL". */
    private static void bytesOfACall() {
        Edges.goes("bytes", Realms::busy, (x, n) -> x.feed(-1L, n), 1, 8, Check.BAD);
        Edges.goes("bytes on an empty tape", NewSilver::new, (x, n) -> x.feed(0L, n), 1, 8, Check.BAD);
        for (int n = 1; n <= 8; n++) {
            NewSilver x = new NewSilver();
            Check.due("feed of " + n, x.feed(Long.MIN_VALUE, n), n);
            Check.due("feed of " + n + " again", x.feed(Long.MAX_VALUE, n), 2 * n);
            Check.due("bytes", x.count(7), 2 * n);
        }
    }

    /** Promise 8: "The n lowest bytes of w, the highest first, come behind THE TAPE's". */
    private static void lowestBytesHighestFirst() {
        String text = "0 is 12 by weight 345;1 is 678 by weight 91";
        for (int n = 1; n <= 8; n++) {
            NewSilver x = Realms.threeSorts();
            x.lot(Check.NEW, 1, 1000, 46000, 0, 0);
            for (int at = 0; at < text.length(); at += n) {
                int many = Math.min(n, text.length() - at);
                // Bytes above the n lowest must not count, whatever they are.
                long w = -1L;
                for (int i = 0; i < many; i++) {
                    w = w << 8 | text.charAt(at + i);
                }
                Check.due("bytes so far", x.feed(w, many), at + many);
            }
            Check.due("fed by " + n, x.order(), 0);
            x.tell(0, 0);
            Check.due("as it was fed", x.pass(0, 0, 0), 678 * 46000 / 91);
        }
    }

    /** "THE TAPE (bytes, 160 at most)": a call that has no room for all its bytes brings none. */
    private static void bytesOfTheTape() {
        for (int n = 1; n <= 8; n++) {
            int many = n;
            Check.due("to the last byte", Realms.withTape(160 - n).feed(0L, n), 160);
            Edges.refused("a byte too many", () -> Realms.withTape(161 - many), x -> x.feed(0L, many), Check.FULL);
            Edges.refused("a full tape", () -> Realms.withTape(160), x -> x.feed(0L, many), Check.FULL);
        }
        Edges.ends("bytes for a full tape", () -> Realms.withTape(160), (x, n) -> x.feed(0L, n), 1, 8, Check.BAD);
        NewSilver x = Realms.withTape(160);
        Check.due("a full tape", x.count(7), 160);
        Check.due("is read", x.order(), -16);
        Check.due("is empty then", x.count(7), 0);
        Check.due("has room again", x.feed(0L, 8), 8);
    }

    private static void order(String text, int due) {
        NewSilver x = new NewSilver();
        Check.due("order '" + text + "'", Check.order(x, text), due);
        Check.due("bytes after '" + text + "'", x.count(7), 0);
        Check.due("orders after '" + text + "'", x.count(2), due == 0 ? 1 : 0);
    }

    private static void fault(String text, int place) {
        order(text, -10 - place);
    }

    /** Promise 9: "CLAUSE;CLAUSE;.. (1 to 6)". */
    private static void clausesOfAnOrder() {
        fault("", 0);
        StringBuilder text = new StringBuilder();
        for (int s = 0; s < 6; s++) {
            text.append(s).append(" is ").append(s);
            order(text.toString(), 0);
            text.append(';');
            fault(text.toString(), s < 5 ? text.length() : text.length() - 1);
        }
        fault(text + "6 is 6", text.length() - 1);
        fault(";", 0);
        fault(";0 is 1", 0);
        fault("0 is 1;;1 is 1", 7);
        fault("0 is 1,1 is 1", 6);
        order(LONGEST, 0);
        fault(LONGEST + "0", LONGEST.length());
        fault(LONGEST + ";", LONGEST.length());
        fault(LONGEST + ";1 is out", LONGEST.length());
    }

    /** Promise 9: "S the digit of a SORT (0 .. 7, told or not), each once at most .. (of an S that stood before: its place)". */
    private static void sortsOfClauses() {
        for (char s = '0'; s <= '7'; s++) {
            order(s + " is 1", 0);
            order(s + " is out", 0);
            fault(s + " is 1;" + s, 7);
            fault(s + " is out;" + s + " is out", 9);
            fault(s + " is 1 by weight 1;" + s + " is 1", 19);
            fault("" + s + s + " is 1", 1);
        }
        for (char s : new char[] {'/', '8', '9', ':', ' ', 0, 255, '0' + 128}) {
            fault(s + " is 1", 0);
            fault("0 is 1;" + s + " is 1", 7);
        }
        fault("5 is 1;4 is 1;3 is 1;2 is 1;1 is 1;5 is 1", 35);
        fault("5 is 1;4 is 1;3 is 1;2 is 1;1 is 1;1 is 1", 35);
        passesFor("7 is 3", 7, 3);
        passesFor("0 is 3", 0, 3);
    }

    /** What a coin of a sort, of eight of 50 grains and 240 pence, passes for by an order. */
    private static void passesFor(String text, int sort, int pence) {
        NewSilver x = new NewSilver();
        int order = Check.order(x, text);
        for (int s = 0; s < 8; s++) {
            x.sort(50, 50, 0, 240);
            x.lot(Check.NEW, s, 1, 50, 0, 0);
        }
        x.tell(order, 0);
        for (int s = 0; s < 8; s++) {
            Check.due("sort " + s + " by '" + text + "'", x.pass(s, 0, 0), s == sort ? pence : 240);
        }
    }

    /** Promise 9: "N pence, 1 to 3 digits, G grains, 1 to 4 digits"; "A G begins with a digit 1 .. 9". */
    private static void digits() {
        fault("0 is ", 5);
        fault("0 is ;", 5);
        fault("0 is -1", 5);
        fault("0 is 1234", 8);
        fault("0 is 0000", 8);
        fault("0 is 1 by weight ", 17);
        fault("0 is 1 by weight ;", 17);
        fault("0 is 1 by weight 0", 17);
        fault("0 is 1 by weight 01", 17);
        fault("0 is 1 by weight 12345", 21);
        fault("0 is 1 by weight 10000", 21);
        fault("0 is 1/", 6);
        fault("0 is 1:", 6);
        fault("0 is 1 by weight /", 17);
        fault("0 is 1 by weight :", 17);
        fault("0 is 1 by weight 9/", 18);
        fault("0 is 1 by weight 9:", 18);
        String[] pence = {"0", "9", "00", "09", "99", "000", "009", "100", "999"};
        for (String n : pence) {
            passesFor("1 is " + n, 1, Integer.parseInt(n));
            passesFor("1 is " + n + " by weight 1", 1, 50 * Integer.parseInt(n));
        }
        int[][] grains = {{1, 49950}, {9, 5550}, {10, 4995}, {99, 504}, {100, 499}, {999, 50}, {1000, 49}, {9999, 4}};
        for (int[] g : grains) {
            passesFor("1 is 999 by weight " + g[0], 1, g[1]);
        }
    }

    /** Promise 9: "one blank where one stands here, no other". */
    private static void blanks() {
        String text = "0 is 12 by weight 100;2 is out";
        order(text, 0);
        for (int at = 0; at <= text.length(); at++) {
            String more = text.substring(0, at) + " " + text.substring(at);
            fault(more, FaultByPattern.of(more));
            if (at < text.length() && text.charAt(at) == ' ') {
                fault(text.substring(0, at) + text.substring(at + 1), at);
                fault(more, at + 1);
            }
        }
        fault("0\tis 1", 1);
        fault("0 is 1\n", 6);
        fault("0 is out by weight 1", 8);
    }

    /** Promise 9: "The FAULT is the place of the first byte with which none begins so". */
    private static void everyByteAtEveryPlace() {
        String text = "0 is 12;3 is 5 by weight 100;2 is out";
        for (int at = 0; at < text.length(); at++) {
            for (char b = 0; b < 256; b++) {
                String other = text.substring(0, at) + b + text.substring(at + 1);
                int place = FaultByPattern.of(other);
                order(other, place < 0 ? 0 : -10 - place);
                Check.holds("not before the byte that is another one", place < 0 || place >= at);
            }
        }
    }

    /** Promise 9: "(.. the end of THE TAPE, if it ends too early)". */
    private static void tapesThatEndTooEarly() {
        String[] ends = {"0", "0 is 1", "0 is 12", "0 is 123", "0 is 123;4 is out", "0 is 123;4 is out;5 is 6",
            "0 is 123;4 is out;5 is 6 by weight 7", "0 is 123;4 is out;5 is 6 by weight 78"};
        String text = ends[ends.length - 1];
        for (int n = 0; n <= text.length(); n++) {
            boolean whole = false;
            for (int i = 1; i < ends.length; i++) {
                whole = whole || ends[i].length() == n;
            }
            order(text.substring(0, n), whole ? 0 : -10 - n);
        }
    }

    /** Promise 9: "ORDERS are numbered from 0 on, 10 at most"; "FULL". */
    private static void tenOrders() {
        NewSilver x = new NewSilver();
        for (int o = 0; o < 10; o++) {
            Check.due("a fault before", Check.order(x, "x"), -10);
            Check.due("order", Check.order(x, "0 is " + o), o);
            Check.due("orders", x.count(2), o + 1);
        }
        Edges.refused("an eleventh order", Realms::tenOrdersAndTape, NewSilver::order, Check.FULL);
        Edges.refused("an eleventh, of no bytes", Realms::tenOrders, NewSilver::order, Check.FULL);
        Supplier<NewSilver> faulty = () -> {
            NewSilver y = Realms.tenOrders();
            Check.write(y, "0 is x");
            return y;
        };
        Edges.refused("an eleventh, with a fault", faulty, NewSilver::order, Check.FULL);
        NewSilver y = Realms.tenOrdersAndTape();
        Check.due("refused", y.order(), Check.FULL);
        Check.due("bytes come behind those that stayed", y.feed('1', 1), 20);
    }

    /** Promise 9: "THE TAPE, which is empty then .. (THE TAPE is empty then, too)". */
    private static void tapeAfterAnOrder() {
        NewSilver x = new NewSilver();
        Check.due("order", Check.order(x, "0 is 12"), 0);
        Check.due("nothing is left of an order", x.order(), -10);
        Check.due("fault", Check.order(x, "0 is 12x"), -17);
        Check.due("nothing is left of a fault", x.order(), -10);
        Check.due("a shorter one", Check.order(x, "1 is 3"), 1);
        Check.due("orders", x.count(2), 2);
    }

    /** Promise 10: "NONE": ORDER, TOWN. */
    private static void ordersAndTownsTold() {
        Edges.goes("order told", Realms::busy, (x, n) -> x.tell(n, 4), 0, 2, Check.NONE);
        Edges.goes("order told of ten", Realms::tenOrders, (x, n) -> x.tell(n, 4), 0, 9, Check.NONE);
        Edges.goes("town told", Realms::busy, (x, n) -> x.tell(0, n), 0, 5, Check.NONE);
        Edges.refused("no order, no town", Realms::busy, x -> x.tell(3, 6), Check.NONE);
        NewSilver x = Realms.tenOrders();
        for (int t = 2; t < 6; t++) {
            for (int o = 0; o < 10; o++) {
                Check.due("told", x.tell(o, t), 1);
                Check.due("in force", x.force(t, Realms.DAY_OF_BUSY), o);
                Check.due("in no other town yet", x.force((t + 1) % 6, 999), t == 5 ? 0 : Check.NONE);
            }
        }
    }

    /** Promise 10: "1; 0 if it was told there": the day on which it was told stays. */
    private static void toldOnce() {
        Edges.changesNothing("told before, of an earlier day", Realms::busy, x -> x.tell(1, 0), 0);
        Edges.changesNothing("told before, in force", Realms::busy, x -> x.tell(2, 1), 0);
        NewSilver x = new NewSilver();
        Check.order(x, "0 is 1");
        Check.order(x, "0 is 2");
        Check.due("told", x.tell(0, 0), 1);
        Check.due("told on the same day", x.tell(0, 0), 0);
        x.today(999);
        Check.due("another", x.tell(1, 0), 1);
        Check.due("told again on the last day", x.tell(0, 0), 0);
        Check.due("the other is in force", x.force(0, 999), 1);
        Check.due("told in another town", x.tell(0, 1), 1);
        Check.due("not before that day", x.force(1, 998), Check.NONE);
    }

    /** Promise 11: "NONE: none, too". */
    private static void ordersAndTownsInForce() {
        NewSilver all = Realms.busy();
        for (int t = 0; t < 6; t++) {
            all.tell(2, t);
        }
        for (int t = 0; t < 6; t++) {
            Check.due("town " + t, all.force(t, 999), 2);
        }
        Edges.ends("town of an order", Realms::busy, (x, n) -> x.force(n, 999), 0, 5, Check.NONE);
        Edges.refused("told nowhere", Realms::busy, x -> x.force(5, 999), Check.NONE);
        Edges.refused("the day before", Realms::busy, x -> x.force(0, 1), Check.NONE);
        Edges.refused("a day below 0", Realms::busy, x -> x.force(0, -1), Check.NONE);
        Edges.refused("a day far below", Realms::busy, x -> x.force(0, Check.FAR_DOWN), Check.NONE);
    }

    /** Promise 11: "the latest told there by then (of one day the greatest number)". */
    private static void latestByThen() {
        NewSilver x = Realms.tenOrders();
        int[][] told = {{12, 7}, {12, 3}, {13, 5}, {13, 6}, {13, 4}, {999, 0}};
        for (int[] t : told) {
            x.today(t[0]);
            Check.due("told", x.tell(t[1], 2), 1);
        }
        int[][] dues = {{0, Check.NONE}, {11, Check.NONE}, {12, 7}, {13, 6}, {14, 6}, {998, 6}, {999, 0}, {1000, 0},
            {Check.FAR_UP, 0}, {-1, Check.NONE}};
        for (int[] due : dues) {
            Check.due("in force on day " + due[0], x.force(2, due[0]), due[1]);
        }
        NewSilver first = Realms.tenOrders();
        Check.due("on the first day", first.force(0, 0), Check.NONE);
        NewSilver y = new NewSilver();
        Check.order(y, "0 is 1");
        y.tell(0, 0);
        Check.due("told on day 0", y.force(0, 0), 0);
        Check.due("told on day 0, the day before", y.force(0, -1), Check.NONE);
    }

    /** Promise 12: "NONE; BAD: day below 0". */
    private static void passRefused() {
        Edges.goes("lot that passes", Realms::busy, (x, n) -> x.pass(n, 0, 0), 0, Realms.LOTS_OF_BUSY - 1, Check.NONE);
        Edges.goes("town of passing", Realms::busy, (x, n) -> x.pass(0, n, 0), 0, 5, Check.NONE);
        Edges.goes("day of passing", Realms::busy, (x, n) -> x.pass(0, 0, n), 0, Check.FAR_UP, Check.BAD);
        Edges.refused("no lot, bad", Realms::busy, x -> x.pass(Realms.LOTS_OF_BUSY, 0, -1), Check.NONE);
        Edges.refused("no town, bad", Realms::busy, x -> x.pass(0, 6, -1), Check.NONE);
        Edges.refused("plate, bad", Realms::busy, x -> x.pass(Realms.PLATE_IN_TOWN, 0, -1), Check.BAD);
    }

    private static int passes(String text, int weight) {
        NewSilver x = Realms.threeSorts();
        x.lot(Check.CLIPPED, 2, 10, weight, 0, 0);
        x.tell(Check.order(x, text), 0);
        return x.pass(0, 0, 0);
    }

    /** "by weight: N times its weight by G, cut". */
    private static void passCut() {
        Check.due("just nothing", passes("2 is 1 by weight 100", 99), 0);
        Check.due("just one", passes("2 is 1 by weight 100", 100), 1);
        Check.due("not two yet", passes("2 is 1 by weight 100", 199), 1);
        Check.due("just two", passes("2 is 1 by weight 100", 200), 2);
        Check.due("cut once, not for each coin", passes("2 is 7 by weight 9", 14), 10);
        Check.due("the least of all", passes("2 is 1 by weight 9999", 5000), 0);
        Check.due("for 0", passes("2 is 0 by weight 1", 5000), 0);
        NewSilver x = new NewSilver();
        x.sort(500, 500, 1000, 240);
        x.lot(Check.NEW, 0, 1000, 500000, 0, 0);
        x.tell(Check.order(x, "0 is 999 by weight 1"), 0);
        x.tell(Check.order(x, "0 is 999 by weight 9999"), 1);
        x.tell(Check.order(x, "0 is 999"), 2);
        int[] dues = {499500000, 49954, 999000, 240000};
        for (int t = 0; t < dues.length; t++) {
            Check.due("the greatest lot in town " + t, x.pass(0, t, 0), dues[t]);
        }
    }

    /** "by N: N for each coin; .. out: for nothing; without a CLAUSE, or ORDER: NAME VALUE for each". */
    private static void passByClause() {
        NewSilver x = Realms.busy();
        int[][] dues = {{0, 0, 120}, {0, 2, 120}, {0, 3, 860 * 11 / 90}, {0, 999, 860 * 11 / 90},
            {Realms.BAG_IN_TOWN, 2, 120}, {Realms.BAG_IN_TOWN, 3, 0}, {Realms.TO_MINT, 1, 480}, {Realms.TO_MINT, 2, 10},
            {Realms.TO_MINT, 3, 480}};
        for (int[] due : dues) {
            Check.due("lot " + due[0] + " on day " + due[1], x.pass(due[0], 0, due[1]), due[2]);
        }
        Check.due("the day before it is told", x.pass(0, 1, 2), 120);
        Check.due("the day on which it is told", x.pass(0, 1, 3), 30);
        Check.due("in a town without an order", x.pass(0, 5, 3), 120);
    }

    /** "A BAG that is sealed, and a FALSE one (not found yet), as PLAIN ones; PLATE, and what was found FALSE, for nothing." */
    private static void passOfKinds() {
        NewSilver x = Realms.busy();
        Check.due("a sealed bag", x.pass(Realms.BAG_AT_MINT, 1, 3), 6);
        Check.due("a sealed bag by weight", x.pass(Realms.BAG_AT_MINT, 0, 3), 170 * 11 / 90);
        Check.due("a false one", x.pass(Realms.FALSE_ONE, 1, 3), 9);
        Check.due("a false one by weight", x.pass(Realms.FALSE_ONE, 0, 3), 100 * 11 / 90);
        Check.due("a false one without an order", x.pass(Realms.FALSE_ONE, 2, 3), 36);
        for (int t = 0; t < 6; t++) {
            Check.due("plate in town " + t, x.pass(Realms.PLATE_IN_TOWN, t, 0), 0);
            Check.due("a found one in town " + t, x.pass(Realms.FOUND_FALSE, t, 0), 0);
        }
        x.send(Realms.FALSE_ONE, 0);
        x.today(15);
        Check.due("till it is found", x.pass(Realms.FALSE_ONE, 2, 0), 36);
        x.today(16);
        x.melt(Realms.FALSE_ONE);
        Check.due("then for nothing, of days before, too", x.pass(Realms.FALSE_ONE, 2, 0), 0);
    }

    /** "(A LOT in THE CHEST of a TOWN is in that TOWN, but PASSES there no more.)" */
    private static void passOfChests() {
        NewSilver x = Realms.busy();
        Check.due("in the chest", x.pass(Realms.BAG_IN_CHEST, 3, 11), 0);
        Check.due("in the chest, of a day before", x.pass(Realms.BAG_IN_CHEST, 3, 0), 0);
        Check.due("in another town", x.pass(Realms.BAG_IN_CHEST, 2, 11), 48);
        Check.due("given out", x.give(3), 1);
        Check.due("it passes again", x.pass(Realms.BAG_IN_CHEST, 3, 11), 48);
    }

    /** Promise 13: "NONE; BAD: as drawn()". */
    private static void lightRefused() {
        Edges.goes("lot that is light", Realms::thirtyLots, (x, n) -> x.light(n, 0, 0, 0), 0, 29, Check.NONE);
        Edges.goes("town of a light one", Realms::busy, (x, n) -> x.light(0, 0, 0, n), 0, 5, Check.NONE);
        Edges.goes("light coins drawn", Realms::busy, (x, n) -> x.light(0, n, n * 80, 0), 0, 10, Check.BAD);
        Edges.goes("weight of light coins", Realms::busy, (x, n) -> x.light(0, 3, n, 0), 240, 276, Check.BAD);
        Edges.goes("weight of clipped ones", Realms::busy, (x, n) -> x.light(Realms.CLIPPED_ONE, 3, n, 0), 3, 276, Check.BAD);
        Edges.goes("weight of none", Realms::busy, (x, n) -> x.light(0, 0, n, 0), 0, 0, Check.BAD);
        Edges.refused("plate", Realms::busy, x -> x.light(Realms.PLATE_IN_TOWN, 0, 0, 0), Check.BAD);
        Edges.refused("plate where no order is", Realms::busy, x -> x.light(Realms.PLATE_IN_TOWN, 0, 0, 5), Check.BAD);
        Edges.refused("bad where no order is", Realms::busy, x -> x.light(0, 11, 880, 5), Check.BAD);
        Edges.refused("no lot, bad", Realms::busy, x -> x.light(Realms.LOTS_OF_BUSY, -1, 0, 0), Check.NONE);
        Edges.refused("no town, bad", Realms::busy, x -> x.light(0, -1, 0, 6), Check.NONE);
        Edges.refused("no town, plate", Realms::busy, x -> x.light(Realms.PLATE_IN_TOWN, 0, 0, -1), Check.NONE);
    }

    private static int light(String text, int kind, int coins, int k, int weight) {
        NewSilver x = Realms.threeSorts();
        x.lot(kind, 0, coins, coins * 92, 0, 0);
        x.tell(Check.order(x, text), 0);
        return x.light(0, k, weight, 0);
    }

    /** "A LOT is LIGHT .. if even the most is below G for each coin": not if it is just as much. */
    private static void lightJustNot() {
        for (int kind : new int[] {Check.PLAIN, Check.CLIPPED, Check.BAG, Check.NEW, Check.FALSE}) {
            Check.due("just as much", light("0 is 1 by weight 90", kind, 10, 5, 440), 0);
            Check.due("a grain less", light("0 is 1 by weight 90", kind, 10, 5, 439), 1);
            Check.due("none drawn, the most", light("0 is 1 by weight 92", kind, 10, 0, 0), 0);
            Check.due("none drawn, a grain more for each", light("0 is 1 by weight 93", kind, 10, 0, 0), 1);
            Check.due("all drawn", light("0 is 1 by weight 81", kind, 1000, 1000, 81000), 0);
            Check.due("all drawn, a grain less", light("0 is 1 by weight 81", kind, 1000, 1000, 80999), 1);
            Check.due("one coin", light("0 is 1 by weight 85", kind, 1, 1, 85), 0);
            Check.due("one coin, a grain less", light("0 is 1 by weight 85", kind, 1, 1, 84), 1);
            Check.due("the least G", light("0 is 1 by weight 1", kind, 10, 10, 800), 0);
            Check.due("the most G", light("0 is 1 by weight 9999", kind, 1000, 0, 0), 1);
            Check.due("for 0 pence", light("0 is 0 by weight 93", kind, 10, 0, 0), 1);
        }
    }

    /** Promise 13: "1; 0 (also if that tells nothing by weight)"; "by the ORDER in force in a TOWN TODAY". */
    private static void lightByWhat() {
        Check.due("by tale", light("0 is 1", Check.PLAIN, 10, 10, 800), 0);
        Check.due("out", light("0 is out", Check.PLAIN, 10, 10, 800), 0);
        Check.due("another sort by weight", light("1 is 1 by weight 9999", Check.PLAIN, 10, 10, 800), 0);
        Check.due("without a clause", light("1 is 1", Check.PLAIN, 10, 10, 800), 0);
        NewSilver x = Realms.threeSorts();
        x.lot(Check.PLAIN, 0, 10, 800, 0, 0);
        int heavy = Check.order(x, "0 is 1 by weight 93");
        int tale = Check.order(x, "0 is 1");
        Check.due("not told yet", x.light(0, 0, 0, 0), 0);
        x.tell(heavy, 0);
        Check.due("told today", x.light(0, 0, 0, 0), 1);
        Check.due("in another town", x.light(0, 0, 0, 1), 0);
        x.today(1);
        Check.due("told yesterday", x.light(0, 0, 0, 0), 1);
        x.tell(tale, 0);
        Check.due("another is in force", x.light(0, 0, 0, 0), 0);
    }
}
