import java.util.Arrays;

/**
 * A realm whose worn silver is made again. The document (DOC.md) tells what each call promises;
 * the comments here tell only why a thing is done as it is.
 */
public final class NewSilver {
    public static final int NONE = -1, BAD = -2, STATE = -3, FULL = -4;

    private static final int SORTS = 8, LOTS = 30, ORDERS = 10, TOWNS = 6, MINTS = 3;
    private static final int PLAIN = 0, CLIPPED = 1, BAG = 2, PLATE = 3, NEW = 4, FALSE = 5;
    private static final int PURE = 1000, LAW = 925;
    private static final int LAST_DAY = 999, FIRST_FAULT = -10;
    private static final int MOST_GRAINS_OF_COIN = 500, MOST_VALUE = 240, MOST_COINS = 1000;
    private static final int MOST_PLATE = 100000, MOST_AMOUNT = 1000000, MOST_WAGES = 100000;
    private static final int MOST_DAYS = 30, FIRST_DAYS = 5;
    private static final int MOST_FURNACE = 1000000, FIRST_FURNACE = 100000, MOST_WISH = 1000;

    private final Sort[] sorts = new Sort[SORTS];
    private int sortCount;
    private final Lot[] lots = new Lot[LOTS];
    private int lotCount;
    private final Order[] orders = new Order[ORDERS];
    private int orderCount;
    private final Tape tape = new Tape();
    private final Pot[] pots = new Pot[MINTS];
    /** Of the road between a town and a mint, at town * MINTS + mint. */
    private final int[] roadDays = new int[TOWNS * MINTS];
    private final long[] credits = new long[TOWNS];
    private final int[] payment = new int[LOTS];
    private int paymentCount;
    /** What each lot can pay while a payment is made: kept, so that none makes a row anew. */
    private final int[] worth = new int[LOTS];
    private final int[] gives = new int[MINTS];
    private final int[] needs = new int[TOWNS];
    private final Carrier carrier = new Carrier();
    private int thisDay;

    public NewSilver() {
        Arrays.fill(roadDays, FIRST_DAYS);
        for (int m = 0; m < MINTS; m++) {
            pots[m] = new Pot();
        }
    }

    // ---- sorts and lots

    public int sort(int least, int most, int fine, int value) {
        boolean weights = within(most, 1, MOST_GRAINS_OF_COIN) && within(least, 1, most);
        if (!weights || !within(fine, 0, PURE) || !within(value, 1, MOST_VALUE)) {
            return BAD;
        }
        if (sortCount >= SORTS) {
            return FULL;
        }
        sorts[sortCount] = new Sort(least, most, fine, value);
        return sortCount++;
    }

    public int lot(int kind, int sort, int coins, int weight, int fine, int town) {
        Sort s = sortAt(sort);
        if (s == null || !isTown(town)) {
            return NONE;
        }
        if (!isLotAsTold(kind, s, coins, weight, fine)) {
            return BAD;
        }
        if (lotCount >= LOTS) {
            return FULL;
        }
        Lot x = new Lot(kind, sort, s, coins, weight, hasOwnFine(kind) ? fine : s.fine);
        x.town = town;
        return keepLot(x);
    }

    public int open(int l, int weight) {
        Lot x = lotAt(l);
        if (x == null) {
            return NONE;
        }
        if (!within(weight, x.coins, x.coins * x.sort.most)) {
            return BAD;
        }
        if (!x.isSealedBag()) {
            return STATE;
        }
        boolean clipped = weight < x.coins * x.sort.least;
        x.kind = clipped ? CLIPPED : PLAIN;
        x.weight = weight;
        return oneIf(clipped);
    }

    public int about(int l, int what) {
        Lot x = lotAt(l);
        if (x == null) {
            return NONE;
        }
        switch (what) {
            case 0: return x.kind;
            case 1: return x.sortNumber;
            case 2: return x.coins;
            case 3: return x.weight;
            case 4: return x.fine;
            case 5: return x.town;
            case 6: return x.mint;
            case 7: return x.isOnRoad(thisDay) ? x.comes : NONE;
            case 8: return oneIf(x.melted);
            case 9: return oneIf(x.inChest);
            case 10: return oneIf(x.found);
            default: return NONE;
        }
    }

    public long silver(int l) {
        Lot x = lotAt(l);
        return x == null ? NONE : x.silverHeld();
    }

    public int today(int d) {
        if (!within(d, thisDay, LAST_DAY)) {
            return BAD;
        }
        int before = thisDay;
        thisDay = d;
        return before;
    }

    // ---- orders

    public int feed(long w, int n) {
        if (!within(n, 1, 8)) {
            return BAD;
        }
        return tape.append(w, n) ? tape.length : FULL;
    }

    public int order() {
        // FULL is a refusal and a fault is none: a tape that is refused is not read, and stays.
        if (orderCount >= ORDERS) {
            return FULL;
        }
        int fault = tape.findFault();
        tape.length = 0;
        if (fault != NONE) {
            return FIRST_FAULT - fault;
        }
        orders[orderCount] = new Order(tape.pence, tape.grains);
        return orderCount++;
    }

    public int tell(int order, int town) {
        Order o = orderAt(order);
        if (o == null || !isTown(town)) {
            return NONE;
        }
        if (o.told[town] != NONE) {
            return 0;
        }
        o.told[town] = thisDay;
        return 1;
    }

    public int force(int town, int day) {
        return isTown(town) ? orderInForce(town, day) : NONE;
    }

    public int pass(int l, int town, int day) {
        Lot x = lotAt(l);
        if (x == null || !isTown(town)) {
            return NONE;
        }
        if (day < 0) {
            return BAD;
        }
        return worthOf(x, town, orderAt(orderInForce(town, day)));
    }

    public int light(int l, int k, int weight, int town) {
        Lot x = lotAt(l);
        if (x == null || !isTown(town)) {
            return NONE;
        }
        if (!x.canDraw(k, weight)) {
            return BAD;
        }
        Order o = orderAt(orderInForce(town, thisDay));
        if (o == null) {
            return 0;
        }
        // A sort that is not told by weight must have 0 grains, and nothing is below that.
        return oneIf(x.mostDrawn(k, weight) < o.grains[x.sortNumber] * x.coins);
    }

    // ---- payments

    public int pay(int town, int amount) {
        if (!isTown(town)) {
            return NONE;
        }
        if (!within(amount, 1, MOST_AMOUNT)) {
            return BAD;
        }
        if (reckonWorth(town) < amount) {
            return STATE;
        }
        paymentCount = 0;
        long sum = 0;
        for (int n = 0; n < LOTS && sum < amount; n++) {
            sum += payWorst();
        }
        credits[town] += sum - amount;
        return paymentCount;
    }

    public int paid(int i) {
        return within(i, 0, paymentCount - 1) ? payment[i] : NONE;
    }

    public long credit(int town) {
        return isTown(town) ? credits[town] : NONE;
    }

    public int give(int town) {
        if (!isTown(town)) {
            return NONE;
        }
        int given = 0;
        for (int l = 0; l < lotCount; l++) {
            Lot x = lotAt(l);
            if (x != null && x.inChest && x.town == town) {
                x.inChest = false;
                given++;
            }
        }
        return given;
    }

    public int lack(int town, int wages) {
        if (!isTown(town)) {
            return NONE;
        }
        if (!within(wages, 0, MOST_WAGES)) {
            return BAD;
        }
        return (int) Math.max(0L, wages - reckonWorth(town));
    }

    // ---- roads and mints

    public int road(int town, int mint, int days) {
        if (!isTown(town) || !isMint(mint)) {
            return NONE;
        }
        if (!within(days, 1, MOST_DAYS)) {
            return BAD;
        }
        int before = roadDays[town * MINTS + mint];
        roadDays[town * MINTS + mint] = days;
        return before;
    }

    public int send(int l, int mint) {
        Lot x = lotAt(l);
        if (x == null || !isMint(mint)) {
            return NONE;
        }
        if (!isTown(x.town) || x.isOnRoad(thisDay) || x.inChest) {
            return STATE;
        }
        x.comes = thisDay + roadDays[x.town * MINTS + mint];
        x.town = NONE;
        x.mint = mint;
        return x.comes;
    }

    public int bring(int l, int town) {
        Lot x = lotAt(l);
        if (x == null || !isTown(town)) {
            return NONE;
        }
        if (!isMint(x.mint) || x.isOnRoad(thisDay)) {
            return STATE;
        }
        x.comes = thisDay + roadDays[town * MINTS + x.mint];
        x.mint = NONE;
        x.town = town;
        return x.comes;
    }

    public int melt(int l) {
        Lot x = lotAt(l);
        if (x == null) {
            return NONE;
        }
        Pot p = potAt(x.mint);
        if (p == null || x.isOnRoad(thisDay)) {
            return STATE;
        }
        if (x.kind == FALSE) {
            findFalse(x.sortNumber);
            return 0;
        }
        if (p.meltedOn(thisDay) + x.weight > p.furnace) {
            return FULL;
        }
        p.takeIn(x.weight, x.silverHeld(), thisDay);
        x.vanish();
        return 1;
    }

    public int furnace(int mint, int grains) {
        Pot p = potAt(mint);
        if (p == null) {
            return NONE;
        }
        if (!within(grains, 1, MOST_FURNACE)) {
            return BAD;
        }
        int before = p.furnace;
        p.furnace = grains;
        return before;
    }

    public int refine(int mint) {
        Pot p = potAt(mint);
        if (p == null) {
            return NONE;
        }
        return p.grains == 0 ? STATE : (int) p.bringToLaw();
    }

    public int strike(int mint, int sort, int coins) {
        Pot p = potAt(mint);
        Sort s = sortAt(sort);
        if (p == null || s == null) {
            return NONE;
        }
        if (!within(coins, 1, MOST_COINS) || s.fine != LAW) {
            return BAD;
        }
        int weight = coins * s.most;
        if (!p.refined || p.grains < weight) {
            return STATE;
        }
        if (lotCount >= LOTS) {
            return FULL;
        }
        p.pourOut(weight);
        Lot x = new Lot(NEW, sort, s, coins, weight, LAW);
        x.mint = mint;
        return keepLot(x);
    }

    public long mint(int m, int what) {
        Pot p = potAt(m);
        if (p == null) {
            return NONE;
        }
        switch (what) {
            case 0: return p.grains;
            case 1: return p.silver;
            case 2: return oneIf(p.refined);
            case 3: return p.copper;
            case 4: return p.treasure;
            case 5: return p.meltedOn(thisDay);
            default: return NONE;
        }
    }

    public long all() {
        long sum = 0;
        for (int l = 0; l < lotCount; l++) {
            Lot x = lotAt(l);
            if (x != null && !x.melted) {
                sum += x.silverHeld();
            }
        }
        for (int m = 0; m < MINTS; m++) {
            Pot p = potAt(m);
            if (p != null) {
                sum += p.silver - p.treasure * PURE + p.wentOff;
            }
        }
        return sum;
    }

    // ---- weights and flows

    public int drawn(int l, int k, int weight, int what) {
        Lot x = lotAt(l);
        if (x == null || !within(what, 0, 1)) {
            return NONE;
        }
        if (!x.canDraw(k, weight)) {
            return BAD;
        }
        return what == 0 ? x.leastDrawn(k, weight) : x.mostDrawn(k, weight);
    }

    public int wish(int side, int i, int much) {
        boolean ofMint = side == 0 && isMint(i);
        boolean ofTown = side == 1 && isTown(i);
        if (!ofMint && !ofTown) {
            return NONE;
        }
        if (!within(much, 0, MOST_WISH)) {
            return BAD;
        }
        int[] row = ofMint ? gives : needs;
        int before = row[i];
        row[i] = much;
        return before;
    }

    public int flow() {
        return carrier.leastCost(gives, needs, roadDays);
    }

    public int sent() {
        return Math.min(sumOf(gives), sumOf(needs));
    }

    public int count(int what) {
        switch (what) {
            case 0: return sortCount;
            case 1: return lotCount;
            case 2: return orderCount;
            case 3: return thisDay;
            case 4: return countMelted();
            case 5: return countOnRoads();
            case 6: return countInChests();
            case 7: return tape.length;
            default: return NONE;
        }
    }

    // ---- what the calls share

    private static boolean within(int x, int low, int high) {
        return x >= low && x <= high;
    }

    private static int oneIf(boolean holds) {
        return holds ? 1 : 0;
    }

    private static int sumOf(int[] row) {
        int sum = 0;
        for (int x : row) {
            sum += x;
        }
        return sum;
    }

    private static boolean isTown(int town) {
        return within(town, 0, TOWNS - 1);
    }

    private static boolean isMint(int mint) {
        return within(mint, 0, MINTS - 1);
    }

    private Sort sortAt(int s) {
        return within(s, 0, sortCount - 1) ? sorts[s] : null;
    }

    private Lot lotAt(int l) {
        return within(l, 0, lotCount - 1) ? lots[l] : null;
    }

    private Order orderAt(int o) {
        return within(o, 0, orderCount - 1) ? orders[o] : null;
    }

    private Pot potAt(int mint) {
        return isMint(mint) ? pots[mint] : null;
    }

    private static boolean hasOwnFine(int kind) {
        return kind == PLATE || kind == FALSE;
    }

    private static boolean isLotAsTold(int kind, Sort s, int coins, int weight, int fine) {
        if (!within(kind, PLAIN, FALSE) || !within(fine, 0, hasOwnFine(kind) ? PURE : 0)) {
            return false;
        }
        if (kind == PLATE) {
            return coins == 0 && within(weight, 1, MOST_PLATE);
        }
        int least = kind == NEW ? s.most : s.leastOfCoin(kind);
        // Coins are looked at before they are multiplied, lest the product wraps around.
        return within(coins, 1, MOST_COINS) && within(weight, coins * least, coins * s.most);
    }

    /** The caller has seen that there is room. */
    private int keepLot(Lot x) {
        lots[lotCount] = x;
        return lotCount++;
    }

    private int orderInForce(int town, int day) {
        int latest = NONE;
        int latestDay = 0;
        for (int n = 0; n < orderCount; n++) {
            Order o = orderAt(n);
            int told = o == null ? NONE : o.told[town];
            if (told != NONE && told <= day && told >= latestDay) {
                latest = n;
                latestDay = told;
            }
        }
        return latest;
    }

    /** The order is null where none is in force. */
    private static int worthOf(Lot x, int town, Order o) {
        boolean inChestHere = x.inChest && x.town == town;
        if (x.kind == PLATE || x.found || inChestHere) {
            return 0;
        }
        if (o == null || o.pence[x.sortNumber] == NONE) {
            return x.coins * x.sort.value;
        }
        int grains = o.grains[x.sortNumber];
        if (grains > 0) {
            return o.pence[x.sortNumber] * x.weight / grains;
        }
        return o.pence[x.sortNumber] * x.coins;
    }

    /** Fills the row of what each lot can pay in a town today; answers their sum. */
    private long reckonWorth(int town) {
        Order o = orderAt(orderInForce(town, thisDay));
        long sum = 0;
        for (int l = 0; l < lotCount; l++) {
            Lot x = lotAt(l);
            boolean there = x != null && x.town == town && !x.isOnRoad(thisDay);
            worth[l] = there ? worthOf(x, town, o) : 0;
            sum += worth[l];
        }
        return sum;
    }

    /** Brings the worst lot that can still pay to the chest; answers what it passes for. */
    private int payWorst() {
        Lot worst = null;
        int number = 0;
        for (int l = 0; l < lotCount; l++) {
            Lot x = lotAt(l);
            if (x != null && worth[l] > 0
                && (worst == null || isWorse(x, worth[l], worst, worth[number]))) {
                worst = x;
                number = l;
            }
        }
        if (worst == null || paymentCount >= LOTS) {
            return 0;
        }
        int pence = worth[number];
        worth[number] = 0;
        worst.inChest = true;
        payment[paymentCount++] = number;
        return pence;
    }

    /** Compares silver by worth as fractions, without dividing. */
    private static boolean isWorse(Lot a, int worthOfA, Lot b, int worthOfB) {
        return a.silverHeld() * worthOfB < b.silverHeld() * worthOfA;
    }

    private void findFalse(int sort) {
        for (int l = 0; l < lotCount; l++) {
            Lot x = lotAt(l);
            if (x != null && x.kind == FALSE && x.sortNumber == sort) {
                x.found = true;
            }
        }
    }

    private int countMelted() {
        int n = 0;
        for (int l = 0; l < lotCount; l++) {
            Lot x = lotAt(l);
            n += oneIf(x != null && x.melted);
        }
        return n;
    }

    private int countOnRoads() {
        int n = 0;
        for (int l = 0; l < lotCount; l++) {
            Lot x = lotAt(l);
            n += oneIf(x != null && x.isOnRoad(thisDay));
        }
        return n;
    }

    private int countInChests() {
        int n = 0;
        for (int l = 0; l < lotCount; l++) {
            Lot x = lotAt(l);
            n += oneIf(x != null && x.inChest);
        }
        return n;
    }

    private static final class Sort {
        final int least;
        final int most;
        final int fine;
        final int value;

        Sort(int least, int most, int fine, int value) {
            this.least = least;
            this.most = most;
            this.fine = fine;
            this.value = value;
        }

        int leastOfCoin(int kind) {
            return kind == CLIPPED || kind == FALSE ? 1 : least;
        }
    }

    private static final class Lot {
        final int sortNumber;
        final Sort sort;
        final int coins;
        /** The sort's, unless the kind has one of its own. */
        final int fine;
        int kind;
        int weight;
        /** Where it is, or goes: one of the two is NONE; both are when it is melted. */
        int town = NONE;
        int mint = NONE;
        int comes;
        boolean melted;
        boolean inChest;
        boolean found;

        Lot(int kind, int sortNumber, Sort sort, int coins, int weight, int fine) {
            this.kind = kind;
            this.sortNumber = sortNumber;
            this.sort = sort;
            this.coins = coins;
            this.weight = weight;
            this.fine = fine;
        }

        long silverHeld() {
            return (long) weight * fine;
        }

        /** What is melted lies in a pot with the weight it had: no bag is left to be opened. */
        boolean isSealedBag() {
            return kind == BAG && !melted;
        }

        boolean isOnRoad(int day) {
            return comes > day;
        }

        void vanish() {
            melted = true;
            mint = NONE;
        }

        boolean canDraw(int k, int together) {
            return coins > 0 && within(k, 0, coins)
                && within(together, k * sort.leastOfCoin(kind), k * sort.most);
        }

        int leastDrawn(int k, int together) {
            return together + (coins - k) * sort.leastOfCoin(kind);
        }

        int mostDrawn(int k, int together) {
            return together + (coins - k) * sort.most;
        }
    }

    private static final class Order {
        /** For each sort: NONE without a clause; 0 if it is out, as both pass for nothing. */
        final int[] pence;
        /** For each sort: 0 if it is not told by weight. */
        final int[] grains;
        /** For each town: the day on which it was told there, or NONE. */
        final int[] told = new int[TOWNS];

        Order(int[] pence, int[] grains) {
            this.pence = Arrays.copyOf(pence, SORTS);
            this.grains = Arrays.copyOf(grains, SORTS);
            Arrays.fill(told, NONE);
        }
    }

    /** It is read from left to right; where no more can be read is the fault. */
    private static final class Tape {
        private static final int BYTES = 160, CLAUSES = 6, PENCE_DIGITS = 3, GRAINS_DIGITS = 4;

        /** What the reading found, as an order keeps it. */
        final int[] pence = new int[SORTS];
        final int[] grains = new int[SORTS];
        int length;
        private final byte[] bytes = new byte[BYTES];
        private int at;

        boolean append(long w, int n) {
            if (length + n > BYTES) {
                return false;
            }
            for (int i = n - 1; i >= 0; i--) {
                bytes[length++] = (byte) (w >> (8 * i));
            }
            return true;
        }

        /** The place of the fault, or NONE. */
        int findFault() {
            at = 0;
            Arrays.fill(pence, NONE);
            Arrays.fill(grains, 0);
            return readClauses() ? NONE : at;
        }

        private boolean readClauses() {
            for (int n = 0; n < CLAUSES; n++) {
                if (n > 0 && !readWord(";")) {
                    return false;
                }
                if (!readClause()) {
                    return false;
                }
                if (at == length) {
                    return true;
                }
            }
            return false;
        }

        private boolean readClause() {
            int s = digitHere();
            if (!within(s, 0, SORTS - 1) || pence[s] != NONE) {
                return false;
            }
            at++;
            if (!readWord(" is ")) {
                return false;
            }
            if (isHere('o')) {
                pence[s] = 0;
                return readWord("out");
            }
            pence[s] = readNumber(0, PENCE_DIGITS);
            if (pence[s] == NONE) {
                return false;
            }
            return !isHere(' ') || readWeight(s);
        }

        private boolean readWeight(int s) {
            if (!readWord(" by weight ")) {
                return false;
            }
            grains[s] = readNumber(1, GRAINS_DIGITS);
            return grains[s] != NONE;
        }

        private boolean readWord(String word) {
            for (int i = 0; i < word.length(); i++) {
                if (!isHere(word.charAt(i))) {
                    return false;
                }
                at++;
            }
            return true;
        }

        private int readNumber(int leastFirst, int digits) {
            if (digitHere() < leastFirst) {
                return NONE;
            }
            int number = 0;
            for (int n = 0; n < digits && digitHere() != NONE; n++) {
                number = number * 10 + digitHere();
                at++;
            }
            return number;
        }

        private boolean isHere(char sign) {
            return at < length && bytes[at] == sign;
        }

        private int digitHere() {
            boolean digit = at < length && bytes[at] >= '0' && bytes[at] <= '9';
            return digit ? bytes[at] - '0' : NONE;
        }
    }

    /** The pot of a mint, with its furnace. */
    private static final class Pot {
        /** A grain of the treasury's silver brings itself to the law, and this much more. */
        private static final int GAIN = PURE - LAW;

        long grains;
        long silver;
        boolean refined;
        long copper;
        long treasure;
        long wentOff;
        int furnace = FIRST_FURNACE;
        private int melted;
        private int meltingDay;

        int meltedOn(int day) {
            return day == meltingDay ? melted : 0;
        }

        void takeIn(int weight, long silverOfIt, int day) {
            melted = meltedOn(day) + weight;
            meltingDay = day;
            grains += weight;
            silver += silverOfIt;
            refined = false;
        }

        /** Answers the grains that are added. */
        long bringToLaw() {
            long over = silver - LAW * grains;
            long added;
            if (over >= 0) {
                added = over / LAW;
                copper += added;
            } else {
                added = (GAIN - 1 - over) / GAIN;
                treasure += added;
                silver += added * PURE;
            }
            grains += added;
            wentOff += silver - LAW * grains;
            silver = LAW * grains;
            refined = true;
            return added;
        }

        void pourOut(int weight) {
            grains -= weight;
            silver -= (long) LAW * weight;
        }
    }

    /**
     * Sends pieces by the cheapest way that is left till nothing is to give, or needed. A way
     * may take back what was sent before, so that the cost of all stays the least at each step.
     */
    private static final class Carrier {
        private static final int FAR = 1000000;

        private final int[] left = new int[MINTS];
        private final int[] wanted = new int[TOWNS];
        private final int[] carried = new int[TOWNS * MINTS];
        private final int[] mintCost = new int[MINTS];
        private final int[] townCost = new int[TOWNS];
        /** The town from which a way takes back a mint's pieces; NONE where the way begins. */
        private final int[] townBefore = new int[MINTS];
        private final int[] mintBefore = new int[TOWNS];

        int leastCost(int[] gives, int[] needs, int[] days) {
            System.arraycopy(gives, 0, left, 0, MINTS);
            System.arraycopy(needs, 0, wanted, 0, TOWNS);
            Arrays.fill(carried, 0);
            int cost = 0;
            // Each step sends a piece at least, and the mints have no more than so many.
            for (int step = 0; step < MINTS * MOST_WISH; step++) {
                findWays(days);
                int town = cheapestTown();
                if (town == NONE) {
                    return cost;
                }
                int pieces = roomOfWay(town);
                cost += pieces * townCost[town];
                carry(town, pieces);
            }
            return cost;
        }

        private void findWays(int[] days) {
            for (int m = 0; m < MINTS; m++) {
                mintCost[m] = left[m] > 0 ? 0 : FAR;
            }
            Arrays.fill(townCost, FAR);
            Arrays.fill(townBefore, NONE);
            Arrays.fill(mintBefore, NONE);
            // Towns come nearer only where a mint did, so a round that changes no mint is the last.
            boolean nearer = true;
            for (int round = 0; round < MINTS + TOWNS && nearer; round++) {
                nearer = false;
                for (int t = 0; t < TOWNS; t++) {
                    goOn(t, days);
                    nearer = takeBack(t, days) || nearer;
                }
            }
        }

        private void goOn(int t, int[] days) {
            for (int m = 0; m < MINTS; m++) {
                int cost = mintCost[m] + days[t * MINTS + m];
                if (mintCost[m] < FAR && cost < townCost[t]) {
                    townCost[t] = cost;
                    mintBefore[t] = m;
                }
            }
        }

        private boolean takeBack(int t, int[] days) {
            boolean nearer = false;
            for (int m = 0; m < MINTS; m++) {
                int cost = townCost[t] - days[t * MINTS + m];
                if (carried[t * MINTS + m] > 0 && townCost[t] < FAR && cost < mintCost[m]) {
                    mintCost[m] = cost;
                    townBefore[m] = t;
                    nearer = true;
                }
            }
            return nearer;
        }

        private int cheapestTown() {
            int town = NONE;
            for (int t = 0; t < TOWNS; t++) {
                boolean reached = wanted[t] > 0 && townCost[t] < FAR;
                if (reached && (town == NONE || townCost[t] < townCost[town])) {
                    town = t;
                }
            }
            return town;
        }

        /** How much can go by the way to a town, which comes by each mint once at most. */
        private int roomOfWay(int town) {
            int room = wanted[town];
            int t = town;
            for (int n = 0; n < MINTS; n++) {
                int m = mintBefore[t];
                if (!isMint(m)) {
                    return 0;
                }
                if (!isTown(townBefore[m])) {
                    return Math.min(room, left[m]);
                }
                t = townBefore[m];
                room = Math.min(room, carried[t * MINTS + m]);
            }
            return 0;
        }

        private void carry(int town, int pieces) {
            wanted[town] -= pieces;
            int t = town;
            for (int n = 0; n < MINTS; n++) {
                int m = mintBefore[t];
                if (!isMint(m)) {
                    return;
                }
                carried[t * MINTS + m] += pieces;
                if (!isTown(townBefore[m])) {
                    left[m] -= pieces;
                    return;
                }
                t = townBefore[m];
                carried[t * MINTS + m] -= pieces;
            }
        }
    }
}
