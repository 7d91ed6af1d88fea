import java.lang.reflect.InvocationTargetException;
import java.lang.reflect.Method;
import java.lang.reflect.Modifier;
import java.nio.charset.StandardCharsets;
import java.util.Arrays;
import java.util.HashMap;
import java.util.Map;
import java.util.Random;
import java.util.Set;
import java.util.TreeMap;
import java.util.TreeSet;

/**
 * Promises 1 to 32 in runs of 512 calls, as long as an object is used: each call is asked of NewSilver and of the
 * second reading of the document, and the first answer that is not the same ends the run.
 */
public final class WholeRunsTest {
    private static final int RUNS = 1500, CALLS = 512;
    /** The document's own bounds, what lies beyond them, and what wraps around when it is multiplied. */
    private static final int[] FAR = {Integer.MIN_VALUE, -1000000, -1, 0, 1, 30, 31, 240, 241, 500, 501, 999, 1000, 1001,
        100000, 100001, 1000000, 1000001, 4294968, 1 << 30, Integer.MAX_VALUE};
    private static final Map<String, Method> FACE = methods(NewSilver.class);
    private static final Map<String, Method> SECOND = methods(SecondReading.class);
    /** Which answers each call gave: runs that meet only some of them would tell little. */
    private static final Map<String, Set<Long>> MET = new TreeMap<>();

    private static final String SIGNS = "012789 ;isoutbywegh\u00b0x";
    private static final String[] NAMES = {"NONE", "BAD", "STATE", "FULL"};
    /** The calls, each with the refusals that its promise names. */
    private static final Set<String> PROMISED = Set.of("sort BAD FULL", "lot NONE BAD FULL", "open NONE BAD STATE",
        "about NONE", "silver NONE", "today BAD", "feed BAD FULL", "order FULL", "tell NONE", "force NONE",
        "pass NONE BAD", "light NONE BAD", "pay NONE BAD STATE", "paid NONE", "credit NONE", "give NONE",
        "lack NONE BAD", "road NONE BAD", "send NONE STATE", "bring NONE STATE", "melt NONE STATE FULL",
        "furnace NONE BAD", "refine NONE STATE", "strike NONE BAD STATE FULL", "mint NONE", "all",
        "drawn NONE BAD", "wish NONE BAD", "flow", "sent", "count NONE");

    private final Random random;
    private final NewSilver first = new NewSilver();
    private final SecondReading second = new SecondReading();
    private final int seed;
    private int calls;
    private boolean same = true;

    private WholeRunsTest(int seed) {
        this.seed = seed;
        random = new Random(seed);
    }

    public static void main(String[] args) {
        for (int run = 0; run < RUNS; run++) {
            new WholeRunsTest(run).play();
        }
        for (String name : FACE.keySet()) {
            Set<Long> met = MET.getOrDefault(name, new TreeSet<>());
            Check.holds(name + " was not only refused", met.stream().anyMatch(a -> a >= 0));
            String refused = name + refusals(met);
            Check.holds(refused + ": each refusal of its promise was met, and no other", PROMISED.contains(refused));
        }
        Check.end();
    }

    private static String refusals(Set<Long> met) {
        StringBuilder names = new StringBuilder();
        for (int n = 0; n < NAMES.length; n++) {
            names.append(met.contains(-1L - n) ? " " + NAMES[n] : "");
        }
        return names.toString();
    }

    private static Map<String, Method> methods(Class<?> of) {
        Map<String, Method> all = new HashMap<>();
        for (Method m : of.getDeclaredMethods()) {
            if (Modifier.isPublic(m.getModifiers())) {
                m.setAccessible(true);
                all.put(m.getName(), m);
            }
        }
        return all;
    }

    private static long answer(Method m, Object of, Object... args) {
        try {
            return ((Number) m.invoke(of, args)).longValue();
        } catch (InvocationTargetException e) {
            throw new IllegalStateException(m.getName() + " threw", e.getCause());
        } catch (IllegalAccessException e) {
            throw new IllegalStateException(e);
        }
    }

    private void ask(String name, Object... args) {
        if (!same || calls >= CALLS) {
            return;
        }
        calls++;
        long due = answer(SECOND.get(name), second, args);
        long got = answer(FACE.get(name), first, args);
        Check.due("run " + seed + ", call " + calls + ": " + name + Arrays.toString(args), got, due);
        same = got == due;
        MET.computeIfAbsent(name, n -> new TreeSet<>()).add(due);
    }

    private void play() {
        boolean small = random.nextBoolean();
        // Each run has its favourite, so that some come to ten orders, others to many payments.
        int favourite = random.nextInt(12);
        int sorts = 1 + random.nextInt(8);
        for (int s = 0; s < sorts; s++) {
            sort(small);
        }
        while (same && calls < CALLS) {
            step(random.nextInt(3) == 0 ? favourite : random.nextInt(12), small);
        }
    }

    private void step(int what, boolean small) {
        switch (what) {
            case 0: sort(small); break;
            case 1: lot(small); break;
            case 2: lot(small); ask("today", pick(second.count(3) + random.nextInt(4))); break;
            case 3: orders(); break;
            case 4: payments(); break;
            case 5: case 6: roads(); break;
            case 7: case 8: mints(); break;
            case 9: weights(); break;
            case 10: flows(); break;
            default: looks();
        }
    }

    /** The number, or seldom one beside it or far away. */
    private int pick(int number) {
        int chance = random.nextInt(60);
        if (chance == 0) {
            return FAR[random.nextInt(FAR.length)];
        }
        return chance == 1 ? number - 1 : chance == 2 ? number + 1 : number;
    }

    private int upTo(int below) {
        return pick(random.nextInt(Math.max(1, below)));
    }

    private int anyLot() {
        return upTo(second.count(1));
    }

    private int anyTown() {
        return upTo(random.nextBoolean() ? 2 : 6);
    }

    private void sort(boolean small) {
        int most = 1 + random.nextInt(small ? 20 : 500);
        int fine = random.nextBoolean() ? 925 : random.nextInt(1001);
        ask("sort", pick(1 + random.nextInt(most)), pick(most), pick(fine), pick(1 + random.nextInt(small ? 12 : 240)));
    }

    /** Its weight lies at an end as often as between. */
    private void lot(boolean small) {
        int kind = random.nextInt(6);
        int coins = kind == Check.PLATE ? 0 : 1 + random.nextInt(small ? 20 : 1000);
        int sort = random.nextInt(Math.max(1, second.count(0)));
        int most = second.weights(sort)[1];
        int least = kind == Check.NEW ? most : leastOf(kind, sort);
        int weight = between(coins * least, coins * most);
        if (kind == Check.PLATE) {
            weight = 1 + random.nextInt(small ? 400 : 100000);
        }
        int fine = kind == Check.PLATE || kind == Check.FALSE ? random.nextInt(1001) : 0;
        ask("lot", pick(kind), pick(sort), pick(coins), pick(weight), pick(fine), anyTown());
    }

    private int leastOf(int kind, int sort) {
        return kind == Check.CLIPPED || kind == Check.FALSE ? 1 : second.weights(sort)[0];
    }

    private int between(int least, int most) {
        int way = random.nextInt(4);
        return way == 0 ? least : way == 1 ? most : least + random.nextInt(Math.max(1, most - least + 1));
    }

    private void orders() {
        if (random.nextInt(3) > 0) {
            ask("tell", upTo(second.count(2)), anyTown());
            return;
        }
        feed(text());
        // What lies on the tape already would be a fault of every later text.
        if (random.nextInt(8) > 0) {
            ask("order");
        }
    }

    /** Six clauses mostly at most, with a sign changed, lost or doubled now and then. */
    private String text() {
        StringBuilder text = new StringBuilder();
        int clauses = random.nextInt(12) == 0 ? 7 : 1 + random.nextInt(6);
        for (int n = 0, s = random.nextInt(8); n < clauses; n++, s += random.nextInt(20) == 0 ? 0 : 1) {
            text.append(n > 0 ? ";" : "").append(s % 8).append(" is ").append(clause());
        }
        int at = random.nextInt(text.length());
        switch (random.nextInt(12)) {
            case 0: text.setCharAt(at, SIGNS.charAt(random.nextInt(SIGNS.length()))); break;
            case 1: text.deleteCharAt(at); break;
            case 2: text.insert(at, text.charAt(at)); break;
            case 3: text.setLength(at); break;
            default: break;
        }
        return text.toString();
    }

    private String clause() {
        String pence = String.valueOf(random.nextInt(random.nextBoolean() ? 30 : 1000));
        switch (random.nextInt(5)) {
            case 0: return "out";
            case 1: return pence;
            case 2: return "00".substring(random.nextInt(3)) + random.nextInt(10);
            default: return pence + " by weight " + (1 + random.nextInt(random.nextBoolean() ? 100 : 9999));
        }
    }

    /** In pieces of one to eight bytes, with other ones above those that count. */
    private void feed(String text) {
        byte[] bytes = text.getBytes(StandardCharsets.ISO_8859_1);
        int n;
        for (int i = 0; i < bytes.length; i += n) {
            n = Math.min(bytes.length - i, random.nextInt(3) == 0 ? 1 + random.nextInt(8) : 8);
            long w = random.nextLong();
            for (int k = 0; k < n; k++) {
                w = w << 8 | bytes[i + k] & 255;
            }
            ask("feed", w, n);
        }
        if (random.nextInt(10) == 0) {
            ask("feed", random.nextLong(), upTo(9));
        }
    }

    private void payments() {
        int town = anyTown();
        int lack = second.lack(town, 100000);
        int there = lack < 0 ? 0 : 100000 - lack;
        switch (random.nextInt(4)) {
            case 0: case 1: ask("pay", town, pick(between(1, Math.max(1, there)))); break;
            case 2: ask("give", town); break;
            default: ask("lack", town, pick(between(0, there)));
        }
        ask("paid", upTo(3));
        ask("credit", town);
    }

    private void roads() {
        int l = anyLot();
        switch (random.nextInt(5)) {
            case 0: ask("road", anyTown(), upTo(3), pick(1 + random.nextInt(random.nextBoolean() ? 3 : 30))); break;
            case 1: ask("bring", l, anyTown()); break;
            default: ask("send", l, upTo(3));
        }
        ask("about", l, upTo(11));
    }

    private void mints() {
        int m = upTo(3);
        switch (random.nextInt(8)) {
            case 0: ask("refine", m); break;
            case 1: strike(m); break;
            case 2: furnace(m); break;
            default: meltOne();
        }
        ask("mint", m, upTo(6));
        ask("all");
    }

    private void strike(int m) {
        ask("refine", m);
        int sort = random.nextInt(Math.max(1, second.count(0)));
        long coins = second.mint(m, 0) / second.weights(sort)[1];
        ask("strike", m, pick(sort), pick((int) Math.max(1, random.nextBoolean() ? coins : Math.min(coins, 3))));
    }

    /** As much as one lot more may be melted, or as little as keeps it out. */
    private void furnace(int m) {
        long melted = Math.max(0, second.mint(m, 5));
        long weight = Math.max(1, second.about(anyLot(), 3));
        ask("furnace", m, pick((int) (random.nextBoolean() ? melted + weight : 1 + random.nextInt(1000000))));
    }

    private void meltOne() {
        for (int tries = 0; tries < 10; tries++) {
            int l = random.nextInt(Math.max(1, second.count(1)));
            if (second.about(l, 6) != Check.NONE && second.about(l, 7) == Check.NONE) {
                ask("melt", l);
                return;
            }
        }
        ask("melt", anyLot());
    }

    private void weights() {
        int l = random.nextInt(Math.max(1, second.count(1)));
        int sort = second.about(l, 1);
        int kind = second.about(l, 0);
        int k = between(0, Math.max(0, second.about(l, 2)));
        int weight = between(k * leastOf(kind, sort), k * second.weights(sort)[1]);
        switch (random.nextInt(3)) {
            case 0: ask("drawn", pick(l), pick(k), pick(weight), upTo(2)); break;
            case 1: ask("light", pick(l), pick(k), pick(weight), anyTown()); break;
            default: ask("open", anyBag(), pick(between(second.about(l, 2), Math.max(1, second.about(l, 3)))));
        }
    }

    private int anyBag() {
        for (int l = 0; l < second.count(1); l++) {
            if (second.about(l, 0) == Check.BAG && random.nextBoolean()) {
                return l;
            }
        }
        return anyLot();
    }

    private void flows() {
        int side = upTo(2);
        ask("wish", side, upTo(side == 0 ? 3 : 6), pick(between(0, random.nextBoolean() ? 20 : 1000)));
        ask(random.nextBoolean() ? "flow" : "sent");
    }

    private void looks() {
        int l = anyLot();
        switch (random.nextInt(6)) {
            case 0: ask("about", l, upTo(11)); break;
            case 1: ask("silver", l); break;
            case 2: ask("force", anyTown(), pick(random.nextInt(second.count(3) + 2))); break;
            case 3: ask("pass", l, anyTown(), pick(random.nextInt(second.count(3) + 2))); break;
            case 4: ask("mint", upTo(3), upTo(6)); break;
            default: ask("count", upTo(8));
        }
    }
}
