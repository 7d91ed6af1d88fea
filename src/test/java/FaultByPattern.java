import java.util.regex.Matcher;
import java.util.regex.Pattern;

/** Another way to the fault of a tape. */
final class FaultByPattern {
    private static final Pattern CLAUSE = Pattern.compile("[0-7] is (out|[0-9]{1,3}( by weight [1-9][0-9]{0,3})?)");

    private FaultByPattern() {
    }

    /** The first place behind which no order can follow, found by a pattern that may still grow. */
    static int of(String text) {
        for (int n = 1; n <= text.length(); n++) {
            if (!mayBegin(text.substring(0, n))) {
                return n - 1;
            }
        }
        String[] clauses = text.split(";", -1);
        return CLAUSE.matcher(clauses[clauses.length - 1]).matches() ? -1 : text.length();
    }

    private static boolean mayBegin(String text) {
        String[] clauses = text.split(";", -1);
        if (clauses.length > 6) {
            return false;
        }
        String seen = "";
        for (int i = 0; i < clauses.length; i++) {
            Matcher m = CLAUSE.matcher(clauses[i]);
            boolean whole = m.matches();
            boolean begun = i == clauses.length - 1 && (m.hitEnd() || whole);
            if (!whole && !begun) {
                return false;
            }
            if (!clauses[i].isEmpty()) {
                String sort = clauses[i].substring(0, 1);
                if (seen.contains(sort)) {
                    return false;
                }
                seen += sort;
            }
        }
        return true;
    }
}
