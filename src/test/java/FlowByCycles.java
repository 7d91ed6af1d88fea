/** Another way to the least cost: any sending of all, then bettered round cycles till none is left. */
final class FlowByCycles {
    private final int[][] cost;
    private final int[][] sent;
    private final int rows;
    private final int columns;

    private FlowByCycles(int[] gives, int[] needs, int[][] days) {
        rows = gives.length + 1;
        columns = needs.length + 1;
        cost = new int[rows][columns];
        sent = new int[rows][columns];
        int[] have = new int[rows];
        int[] want = new int[columns];
        for (int m = 0; m < gives.length; m++) {
            have[m] = gives[m];
            for (int t = 0; t < needs.length; t++) {
                cost[m][t] = days[t][m];
            }
        }
        System.arraycopy(needs, 0, want, 0, needs.length);
        have[rows - 1] = Math.max(0, sum(needs) - sum(gives));
        want[columns - 1] = Math.max(0, sum(gives) - sum(needs));
        for (int r = 0; r < rows; r++) {
            for (int c = 0; c < columns; c++) {
                sent[r][c] = Math.min(have[r], want[c]);
                have[r] -= sent[r][c];
                want[c] -= sent[r][c];
            }
        }
    }

    static int sum(int[] row) {
        int sum = 0;
        for (int x : row) {
            sum += x;
        }
        return sum;
    }

    static int leastCost(int[] gives, int[] needs, int[][] days) {
        FlowByCycles f = new FlowByCycles(gives, needs, days);
        while (f.better()) {
            // each round costs less, so this ends
        }
        int all = 0;
        for (int r = 0; r < f.rows; r++) {
            for (int c = 0; c < f.columns; c++) {
                all += f.sent[r][c] * f.cost[r][c];
            }
        }
        return all;
    }

    /** Looks for a cycle of less cost by Bellman and Ford, and sends round it what it can. */
    private boolean better() {
        int n = rows + columns;
        int[] far = new int[n];
        int[] from = new int[n];
        java.util.Arrays.fill(from, -1);
        int last = -1;
        for (int round = 0; round < n; round++) {
            last = -1;
            for (int r = 0; r < rows; r++) {
                for (int c = 0; c < columns; c++) {
                    int there = rows + c;
                    if (far[r] + cost[r][c] < far[there]) {
                        far[there] = far[r] + cost[r][c];
                        from[there] = r;
                        last = there;
                    }
                    if (sent[r][c] > 0 && far[there] - cost[r][c] < far[r]) {
                        far[r] = far[there] - cost[r][c];
                        from[r] = there;
                        last = r;
                    }
                }
            }
        }
        if (last < 0) {
            return false;
        }
        for (int i = 0; i < n; i++) {
            last = from[last];
        }
        sendRound(from, last);
        return true;
    }

    private void sendRound(int[] from, int start) {
        int room = Integer.MAX_VALUE;
        int v = start;
        do {
            if (v < rows) {
                room = Math.min(room, sent[v][from[v] - rows]);
            }
            v = from[v];
        } while (v != start);
        do {
            if (v < rows) {
                sent[v][from[v] - rows] -= room;
            } else {
                sent[from[v]][v - rows] += room;
            }
            v = from[v];
        } while (v != start);
    }
}
