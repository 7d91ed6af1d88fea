import java.math.BigInteger;
import java.util.ArrayList;
import java.util.Comparator;
import java.util.List;
import java.util.Map;
import java.util.TreeMap;

/**
 * The document a second time, part by part, in its own words and with the Java library: slow, and held in another
 * way than NewSilver holds it, so that both can be asked the same and must answer the same.
 */
final class SecondReading {
    private record Sort(int least, int most, int fine, int value) {
    }

    /** An out one has neither pence nor grains, one by tale no grains. */
    private record Clause(Integer pence, Integer grains) {
    }

    private record Telling(int order, int town, int day) {
    }

    private enum Place { TOWN, MINT, POT }

    private static final class Lot {
        int kind;
        int sort;
        int coins;
        int weight;
        int fine;
        Place place;
        int where;
        int from;
        boolean chest;
        boolean found;
    }

    private record Melting(int mint, int day, int grains) {
    }

    private final List<Sort> sorts = new ArrayList<>();
    private final List<Lot> lots = new ArrayList<>();
    private final List<Map<Integer, Clause>> orders = new ArrayList<>();
    private final List<Telling> tellings = new ArrayList<>();
    private final List<Melting> meltings = new ArrayList<>();
    private final List<Integer> latest = new ArrayList<>();
    private final Map<Integer, Long> credits = new TreeMap<>();
    private final Map<String, Integer> numbers = new TreeMap<>();
    private final long[] grains = new long[3];
    private final long[] silver = new long[3];
    private final boolean[] refined = new boolean[3];
    private final long[] copper = new long[3];
    private final long[] treasure = new long[3];
    private String tape = "";
    private int day;
    /** All silver that ever came by lot(): none comes or goes but by what a bag weighs when it is opened. */
    private long kept;

    // ---- who is there

    private static boolean among(int x, int least, int most) {
        return least <= x && x <= most;
    }

    private static boolean town(int t) {
        return among(t, 0, 5);
    }

    private static boolean mint(int m) {
        return among(m, 0, 2);
    }

    private boolean isLot(int l) {
        return among(l, 0, lots.size() - 1);
    }

    private boolean isSort(int s) {
        return among(s, 0, sorts.size() - 1);
    }

    private boolean under(Lot x) {
        return x.place != Place.POT && day < x.from;
    }

    private boolean stands(Lot x, Place place) {
        return x.place == place && !under(x);
    }

    /** For those who make calls: what a coin of a sort weighs, at least and at most. */
    int[] weights(int sort) {
        return isSort(sort) ? new int[] {sorts.get(sort).least, sorts.get(sort).most} : new int[] {1, 1};
    }

    private int remember(String name, int first, int number) {
        Integer was = numbers.put(name, number);
        return was == null ? first : was;
    }

    private static long silverOf(Lot x) {
        return (long) x.weight * x.fine;
    }

    // ---- sorts and lots

    public int sort(int least, int most, int fine, int value) {
        if (!among(least, 1, 500) || !among(most, 1, 500) || least > most || !among(fine, 0, 1000)
            || !among(value, 1, 240)) {
            return NewSilver.BAD;
        }
        if (sorts.size() == 8) {
            return NewSilver.FULL;
        }
        sorts.add(new Sort(least, most, fine, value));
        return sorts.size() - 1;
    }

    public int lot(int kind, int sort, int coins, int weight, int fine, int town) {
        if (!isSort(sort) || !town(town)) {
            return NewSilver.NONE;
        }
        Sort s = sorts.get(sort);
        long least = (long) coins * s.least;
        long most = (long) coins * s.most;
        boolean good = among(coins, 1, 1000);
        boolean fineGood = fine == 0;
        switch (kind) {
            case 0: case 2: good &= least <= weight && weight <= most; break;
            case 1: good &= coins <= weight && weight <= most; break;
            case 3: good = coins == 0 && among(weight, 1, 100000); fineGood = among(fine, 0, 1000); break;
            case 4: good &= weight == most; break;
            case 5: good &= coins <= weight && weight <= most; fineGood = among(fine, 0, 1000); break;
            default: good = false;
        }
        if (!good || !fineGood) {
            return NewSilver.BAD;
        }
        if (lots.size() == 30) {
            return NewSilver.FULL;
        }
        Lot x = new Lot();
        x.kind = kind;
        x.sort = sort;
        x.coins = coins;
        x.weight = weight;
        x.fine = kind == 3 || kind == 5 ? fine : s.fine;
        x.place = Place.TOWN;
        x.where = town;
        kept += silverOf(x);
        lots.add(x);
        return lots.size() - 1;
    }

    public int open(int l, int weight) {
        if (!isLot(l)) {
            return NewSilver.NONE;
        }
        Lot x = lots.get(l);
        Sort s = sorts.get(x.sort);
        if (weight < 0 || weight > x.coins * s.most || weight < x.coins) {
            return NewSilver.BAD;
        }
        if (x.kind != 2 || x.place == Place.POT) {
            return NewSilver.STATE;
        }
        kept -= silverOf(x);
        x.weight = weight;
        kept += silverOf(x);
        x.kind = weight < x.coins * s.least ? 1 : 0;
        return x.kind;
    }

    public int about(int l, int what) {
        if (!isLot(l) || !among(what, 0, 10)) {
            return NewSilver.NONE;
        }
        Lot x = lots.get(l);
        int[] all = {x.kind, x.sort, x.coins, x.weight, x.fine, x.place == Place.TOWN ? x.where : NewSilver.NONE,
            x.place == Place.MINT ? x.where : NewSilver.NONE, under(x) ? x.from : NewSilver.NONE,
            x.place == Place.POT ? 1 : 0, x.chest ? 1 : 0, x.found ? 1 : 0};
        return all[what];
    }

    public long silver(int l) {
        return isLot(l) ? silverOf(lots.get(l)) : -1;
    }

    public int today(int d) {
        if (d < day || d < 0 || d > 999) {
            return NewSilver.BAD;
        }
        int was = day;
        day = d;
        return was;
    }

    // ---- orders

    public int feed(long w, int n) {
        if (n < 1 || n > 8) {
            return NewSilver.BAD;
        }
        if (tape.length() + n > 160) {
            return NewSilver.FULL;
        }
        String all = "";
        for (long rest = w, i = 0; i < 8; i++, rest >>>= 8) {
            all = (char) (rest & 255) + all;
        }
        tape += all.substring(8 - n);
        return tape.length();
    }

    public int order() {
        if (orders.size() == 10) {
            return NewSilver.FULL;
        }
        String text = tape;
        tape = "";
        int fault = FaultByPattern.of(text);
        if (fault >= 0) {
            return -10 - fault;
        }
        Map<Integer, Clause> clauses = new TreeMap<>();
        for (String clause : text.split(";")) {
            String[] words = clause.split(" ");
            Integer pence = words[2].equals("out") ? null : Integer.valueOf(words[2]);
            clauses.put(Integer.valueOf(words[0]), new Clause(pence, words.length > 3 ? Integer.valueOf(words[5]) : null));
        }
        orders.add(clauses);
        return orders.size() - 1;
    }

    public int tell(int order, int town) {
        if (!among(order, 0, orders.size() - 1) || !town(town)) {
            return NewSilver.NONE;
        }
        if (tellings.stream().anyMatch(t -> t.order == order && t.town == town)) {
            return 0;
        }
        tellings.add(new Telling(order, town, day));
        return 1;
    }

    public int force(int town, int day) {
        return tellings.stream().filter(t -> t.town == town && t.day <= day)
            .max(Comparator.comparingInt(Telling::day).thenComparingInt(Telling::order))
            .map(Telling::order).orElse(NewSilver.NONE);
    }

    private Clause clause(int sort, int town, int day) {
        int order = force(town, day);
        return order < 0 ? null : orders.get(order).get(sort);
    }

    private int passes(Lot x, int town, int day) {
        if (x.kind == 3 || x.found || x.chest && x.where == town) {
            return 0;
        }
        Clause c = clause(x.sort, town, day);
        if (c == null) {
            return x.coins * sorts.get(x.sort).value;
        }
        if (c.pence == null) {
            return 0;
        }
        return c.grains == null ? c.pence * x.coins : (int) ((long) c.pence * x.weight / c.grains);
    }

    public int pass(int l, int town, int day) {
        if (!isLot(l) || !town(town)) {
            return NewSilver.NONE;
        }
        return day < 0 ? NewSilver.BAD : passes(lots.get(l), town, day);
    }

    public int light(int l, int k, int weight, int town) {
        if (!isLot(l) || !town(town)) {
            return NewSilver.NONE;
        }
        int most = drawn(l, k, weight, 1);
        if (most == NewSilver.BAD) {
            return NewSilver.BAD;
        }
        Lot x = lots.get(l);
        Clause c = clause(x.sort, town, day);
        return c != null && c.grains != null && most < (long) c.grains * x.coins ? 1 : 0;
    }

    // ---- payments

    private List<Integer> there(int town) {
        List<Integer> them = new ArrayList<>();
        for (int l = 0; l < lots.size(); l++) {
            Lot x = lots.get(l);
            if (stands(x, Place.TOWN) && x.where == town && passes(x, town, day) > 0) {
                them.add(l);
            }
        }
        return them;
    }

    private long together(List<Integer> them, int town) {
        return them.stream().mapToLong(l -> passes(lots.get(l), town, day)).sum();
    }

    private static BigInteger product(long a, long b) {
        return BigInteger.valueOf(a).multiply(BigInteger.valueOf(b));
    }

    public int pay(int town, int amount) {
        if (!town(town)) {
            return NewSilver.NONE;
        }
        if (amount < 1 || amount > 1000000) {
            return NewSilver.BAD;
        }
        List<Integer> them = there(town);
        if (together(them, town) < amount) {
            return NewSilver.STATE;
        }
        Comparator<Integer> worst = (a, b) -> product(silverOf(lots.get(a)), passes(lots.get(b), town, day))
            .compareTo(product(silverOf(lots.get(b)), passes(lots.get(a), town, day)));
        them.sort(worst.thenComparingInt(l -> l));
        int first = 1;
        while (together(them.subList(0, first), town) < amount) {
            first++;
        }
        long over = together(them.subList(0, first), town) - amount;
        credits.merge(town, over, Long::sum);
        latest.clear();
        for (int l : them.subList(0, first)) {
            latest.add(l);
            lots.get(l).chest = true;
        }
        return first;
    }

    public int paid(int i) {
        return among(i, 0, latest.size() - 1) ? latest.get(i) : NewSilver.NONE;
    }

    public long credit(int town) {
        return town(town) ? credits.getOrDefault(town, 0L) : -1;
    }

    public int give(int town) {
        if (!town(town)) {
            return NewSilver.NONE;
        }
        List<Lot> out = lots.stream().filter(x -> x.chest && x.where == town).toList();
        out.forEach(x -> x.chest = false);
        return out.size();
    }

    public int lack(int town, int wages) {
        if (!town(town)) {
            return NewSilver.NONE;
        }
        if (wages < 0 || wages > 100000) {
            return NewSilver.BAD;
        }
        long left = wages - together(there(town), town);
        return left < 0 ? 0 : (int) left;
    }

    // ---- roads and mints

    private int days(int town, int mint) {
        return numbers.getOrDefault("road " + town + " " + mint, 5);
    }

    public int road(int town, int mint, int days) {
        if (!town(town) || !mint(mint)) {
            return NewSilver.NONE;
        }
        return among(days, 1, 30) ? remember("road " + town + " " + mint, 5, days) : NewSilver.BAD;
    }

    private int go(Lot x, Place place, int where, int days) {
        x.place = place;
        x.where = where;
        x.from = day + days;
        return x.from;
    }

    public int send(int l, int mint) {
        if (!isLot(l) || !mint(mint)) {
            return NewSilver.NONE;
        }
        Lot x = lots.get(l);
        if (!stands(x, Place.TOWN) || x.chest) {
            return NewSilver.STATE;
        }
        return go(x, Place.MINT, mint, days(x.where, mint));
    }

    public int bring(int l, int town) {
        if (!isLot(l) || !town(town)) {
            return NewSilver.NONE;
        }
        Lot x = lots.get(l);
        return stands(x, Place.MINT) ? go(x, Place.TOWN, town, days(town, x.where)) : NewSilver.STATE;
    }

    public int melt(int l) {
        if (!isLot(l)) {
            return NewSilver.NONE;
        }
        Lot x = lots.get(l);
        if (!stands(x, Place.MINT)) {
            return NewSilver.STATE;
        }
        if (x.kind == 5) {
            lots.stream().filter(y -> y.kind == 5 && y.sort == x.sort).forEach(y -> y.found = true);
            return 0;
        }
        int m = x.where;
        if (mint(m, 5) + x.weight > numbers.getOrDefault("furnace " + m, 100000)) {
            return NewSilver.FULL;
        }
        meltings.add(new Melting(m, day, x.weight));
        grains[m] += x.weight;
        silver[m] += silverOf(x);
        refined[m] = false;
        x.place = Place.POT;
        return 1;
    }

    public int furnace(int mint, int grains) {
        if (!mint(mint)) {
            return NewSilver.NONE;
        }
        return among(grains, 1, 1000000) ? remember("furnace " + mint, 100000, grains) : NewSilver.BAD;
    }

    /** Grain by grain, as the words tell it. */
    public int refine(int mint) {
        if (!mint(mint)) {
            return NewSilver.NONE;
        }
        if (grains[mint] == 0) {
            return NewSilver.STATE;
        }
        int added = 0;
        if (silver[mint] > 925 * grains[mint]) {
            while (silver[mint] >= 925 * (grains[mint] + 1)) {
                grains[mint]++;
                copper[mint]++;
                added++;
            }
        } else {
            while (silver[mint] < 925 * grains[mint]) {
                grains[mint]++;
                silver[mint] += 1000;
                treasure[mint]++;
                added++;
            }
        }
        silver[mint] = 925 * grains[mint];
        refined[mint] = true;
        return added;
    }

    public int strike(int mint, int sort, int coins) {
        if (!mint(mint) || !isSort(sort)) {
            return NewSilver.NONE;
        }
        Sort s = sorts.get(sort);
        if (!among(coins, 1, 1000) || s.fine != 925) {
            return NewSilver.BAD;
        }
        if (!refined[mint] || grains[mint] < coins * s.most) {
            return NewSilver.STATE;
        }
        if (lots.size() == 30) {
            return NewSilver.FULL;
        }
        Lot x = new Lot();
        x.kind = 4;
        x.sort = sort;
        x.coins = coins;
        x.weight = coins * s.most;
        x.fine = s.fine;
        x.place = Place.MINT;
        x.where = mint;
        lots.add(x);
        grains[mint] -= x.weight;
        silver[mint] -= 925L * x.weight;
        return lots.size() - 1;
    }

    public long mint(int m, int what) {
        if (!mint(m) || !among(what, 0, 5)) {
            return -1;
        }
        long melted = meltings.stream().filter(x -> x.mint == m && x.day == day).mapToLong(x -> x.grains).sum();
        return new long[] {grains[m], silver[m], refined[m] ? 1 : 0, copper[m], treasure[m], melted}[what];
    }

    public long all() {
        return kept;
    }

    // ---- weights and flows

    public int drawn(int l, int k, int weight, int what) {
        if (!isLot(l) || !among(what, 0, 1)) {
            return NewSilver.NONE;
        }
        Lot x = lots.get(l);
        Sort s = sorts.get(x.sort);
        int least = x.kind == 1 || x.kind == 5 ? 1 : s.least;
        if (x.coins == 0 || k < 0 || k > x.coins || weight < k * least || weight > k * s.most) {
            return NewSilver.BAD;
        }
        return weight + (x.coins - k) * (what == 0 ? least : s.most);
    }

    public int wish(int side, int i, int much) {
        if (!(side == 0 && mint(i)) && !(side == 1 && town(i))) {
            return NewSilver.NONE;
        }
        return among(much, 0, 1000) ? remember("wish " + side + " " + i, 0, much) : NewSilver.BAD;
    }

    private int[] wishes(int side, int n) {
        int[] all = new int[n];
        for (int i = 0; i < n; i++) {
            all[i] = numbers.getOrDefault("wish " + side + " " + i, 0);
        }
        return all;
    }

    public int flow() {
        int[][] all = new int[6][3];
        for (int t = 0; t < 6; t++) {
            for (int m = 0; m < 3; m++) {
                all[t][m] = days(t, m);
            }
        }
        return FlowByCycles.leastCost(wishes(0, 3), wishes(1, 6), all);
    }

    public int sent() {
        return Math.min(FlowByCycles.sum(wishes(0, 3)), FlowByCycles.sum(wishes(1, 6)));
    }

    public int count(int what) {
        switch (what) {
            case 0: return sorts.size();
            case 1: return lots.size();
            case 2: return orders.size();
            case 3: return day;
            case 4: return (int) lots.stream().filter(x -> x.place == Place.POT).count();
            case 5: return (int) lots.stream().filter(this::under).count();
            case 6: return (int) lots.stream().filter(x -> x.chest).count();
            case 7: return tape.length();
            default: return NewSilver.NONE;
        }
    }
}
