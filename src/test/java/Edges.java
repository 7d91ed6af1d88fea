import java.util.ArrayList;
import java.util.List;
import java.util.function.Function;
import java.util.function.Supplier;

/**
 * What the tests of edges share: where a number ends, and that a refused call changes nothing.
 * Each look stays below the 512 calls for which the document promises answers, so each has realms of its own.
 */
final class Edges {
    interface Call {
        long ask(NewSilver x);
    }

    interface NumberCall {
        long ask(NewSilver x, int number);
    }

    private static final List<Function<NewSilver, String>> LOOKS = List.of(Edges::counts, Edges::lots, Edges::passes,
        Edges::forces, Edges::settings, Edges::tape, Edges::sorts);

    private Edges() {
    }

    static void refused(String what, Supplier<NewSilver> realm, Call call, long refusal) {
        changesNothing(what, realm, call, refusal);
    }

    /**
     * The call answers so, and then no look tells the realm from another in which it was not made. Where there are
     * thirty lots the looks can't see the sorts' numbers, and with ten orders of the tape only its length.
     */
    static void changesNothing(String what, Supplier<NewSilver> realm, Call call, long want) {
        for (Function<NewSilver, String> look : LOOKS) {
            NewSilver touched = realm.get();
            Check.due(what, call.ask(touched), want);
            Check.holds(what + " changes nothing", look.apply(touched).equals(look.apply(realm.get())));
        }
    }

    /** A number goes from low to high: both are taken, and all beside them and far from them is refused. */
    static void goes(String what, Supplier<NewSilver> realm, NumberCall call, int low, int high, long refusal) {
        Check.holds(what + " " + low + " is taken", call.ask(realm.get(), low) >= 0);
        Check.holds(what + " " + high + " is taken", call.ask(realm.get(), high) >= 0);
        ends(what, realm, call, low, high, refusal);
    }

    /** As goes(), for calls whose answers within the bounds are looked at elsewhere. */
    static void ends(String what, Supplier<NewSilver> realm, NumberCall call, int low, int high, long refusal) {
        for (int number : beyond(low, high)) {
            refused(what + " " + number, realm, x -> call.ask(x, number), refusal);
        }
    }

    /** With the powers of two a number that is cut to fewer bits, or wraps around when multiplied, would be taken. */
    private static List<Integer> beyond(int low, int high) {
        int[] tried = {low - 1, high + 1, -1, low + (1 << 8), low + (1 << 16), 1 << 28, high + (1 << 29),
            Integer.MAX_VALUE, Integer.MIN_VALUE, Integer.MIN_VALUE + low, Integer.MIN_VALUE + high};
        List<Integer> beyond = new ArrayList<>();
        for (int number : tried) {
            if ((number < low || number > high) && !beyond.contains(number)) {
                beyond.add(number);
            }
        }
        return beyond;
    }

    private static String counts(NewSilver x) {
        StringBuilder s = new StringBuilder();
        for (int what = 0; what < 8; what++) {
            s.append(x.count(what)).append(' ');
        }
        for (int i = 0; i < 31; i++) {
            s.append(x.paid(i)).append(' ');
        }
        for (int m = 0; m < 3; m++) {
            for (int what = 0; what < 6; what++) {
                s.append(x.mint(m, what)).append(' ');
            }
        }
        for (int t = 0; t < 6; t++) {
            s.append(x.credit(t)).append(' ').append(x.lack(t, 100000)).append(' ');
        }
        return s.append(x.flow()).append(' ').append(x.sent()).append(' ').append(x.all()).toString();
    }

    private static String lots(NewSilver x) {
        StringBuilder s = new StringBuilder();
        int many = x.count(1);
        for (int l = 0; l < many; l++) {
            for (int what = 0; what < 11; what++) {
                s.append(x.about(l, what)).append(' ');
            }
            s.append(x.silver(l)).append(';');
        }
        return s.toString();
    }

    private static String passes(NewSilver x) {
        StringBuilder s = new StringBuilder();
        int many = x.count(1);
        int today = x.count(3);
        for (int l = 0; l < many; l++) {
            for (int t = 0; t < 6; t++) {
                s.append(x.pass(l, t, today)).append(' ');
            }
            s.append(x.drawn(l, 0, 0, 0)).append(' ').append(x.drawn(l, 0, 0, 1)).append(';');
        }
        return s.toString();
    }

    private static String forces(NewSilver x) {
        StringBuilder s = new StringBuilder();
        for (int t = 0; t < 6; t++) {
            for (int day = -1; day < 40; day++) {
                s.append(x.force(t, day)).append(' ');
            }
            s.append(x.force(t, 999)).append(';');
        }
        return s.toString();
    }

    /** What can only be asked by setting it anew. */
    private static String settings(NewSilver x) {
        StringBuilder s = new StringBuilder();
        for (int m = 0; m < 3; m++) {
            for (int t = 0; t < 6; t++) {
                s.append(x.road(t, m, 1)).append(' ');
            }
            s.append(x.furnace(m, 1)).append(' ').append(x.wish(0, m, 0)).append(' ').append(x.refine(m)).append(' ');
        }
        for (int t = 0; t < 6; t++) {
            s.append(x.wish(1, t, 0)).append(' ').append(x.give(t)).append(' ').append(x.lack(t, 100000)).append(' ');
        }
        return s.toString();
    }

    /** The bytes are seen as the order that they are, or by the place of their fault. */
    private static String tape(NewSilver x) {
        StringBuilder s = new StringBuilder();
        int order = x.order();
        s.append(order).append(' ').append(x.count(7)).append(' ').append(x.tell(order, 5)).append(' ');
        int many = x.count(1);
        for (int l = 0; l < many; l++) {
            s.append(x.pass(l, 5, 999)).append(' ').append(x.light(l, 0, 0, 5)).append(' ');
        }
        return s.toString();
    }

    /** A lot of one coin of each sort tells its four numbers, in a town without an order. */
    private static String sorts(NewSilver x) {
        StringBuilder s = new StringBuilder();
        int many = x.count(0);
        for (int sort = 0; sort < many; sort++) {
            int clipped = x.lot(Check.CLIPPED, sort, 1, 1, 0, 5);
            int most = x.drawn(clipped, 0, 0, 1);
            int plain = x.lot(Check.PLAIN, sort, 1, most, 0, 5);
            s.append(most).append(' ').append(x.drawn(plain, 0, 0, 0)).append(' ').append(x.about(plain, 4))
                .append(' ').append(x.pass(plain, 5, 0)).append(';');
        }
        return s.toString();
    }
}
