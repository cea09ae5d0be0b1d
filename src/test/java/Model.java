import java.util.ArrayList;
import java.util.List;

/** The document a second time, in the slowest and simplest way, with the Java library: for ModelTest alone. */
final class Model {
    static final int LIMIT = 50;

    record Wind(int z, int t, int i, int j) { }

    record Cloud(int x, int y, int z, int t, int q, int owner, int minute) { }

    record Field(int x, int y, int f, int n, int v, int p) { }

    record Glacier(int x, int y, int t) { }

    record Order(int hour, int cloud, int kind, int n) { }

    record Bid(int many, int price) { }

    record Gauge(int x, int y, int fell) { }

    int w = 6;
    int h = 5;
    int law = 0;
    int rate = 20;
    int hold = 999;
    int hail = 50;
    int flood = 1;
    final List<Wind> winds = new ArrayList<>();
    final List<Cloud> clouds = new ArrayList<>();
    final List<Field> fields = new ArrayList<>();
    final List<Glacier> glaciers = new ArrayList<>();
    final List<Order> orders = new ArrayList<>();
    final List<Bid> bids = new ArrayList<>();
    final List<Gauge> gauges = new ArrayList<>();

    int[] wind(int z, int hour) {
        for (int t = hour; t >= 0; t--) {
            for (int k = winds.size() - 1; k >= 0; k--) {
                Wind wind = winds.get(k);
                if (wind.z == z && wind.t == t) {
                    return new int[] {wind.i - 1, wind.j - 1};
                }
            }
        }
        return new int[] {0, 0};
    }

    boolean inside(int x, int y) {
        return x >= 0 && y >= 0 && x < w && y < h;
    }

    /** X and Y of a CLOUD alone, or null. */
    int[] alone(int cloud, int hour) {
        Cloud c = clouds.get(cloud);
        if (hour < c.t) {
            return null;
        }
        int[] at = {c.x, c.y};
        for (int now = c.t + 1; now <= hour; now++) {
            int[] by = wind(c.z, now);
            at[0] += by[0];
            at[1] += by[1];
            if (!inside(at[0], at[1])) {
                return null;
            }
        }
        return at;
    }

    static int place(int[] at) {
        return at == null ? -1 : 100 * at[0] + at[1];
    }

    /** What a DAY leaves, up to the end of an HOUR. */
    final class After {
        final boolean[] there = new boolean[8];
        final int[][] part = new int[8][8];
        final int[] x = new int[8];
        final int[] y = new int[8];
        final int[] owner = new int[8];
        final int[] minute = new int[8];
        final int[][] account = new int[8][3];
        final int[][] farmer = new int[7][2];
        final int[][] field = new int[12][3];
        final int[][] kept = new int[3][8];
        final int[] total = new int[8];
        int[][][] rain;
        int seed;

        After(int seed, int last) {
            this.seed = seed;
            for (int f = 0; f < fields.size(); f++) {
                field[f][0] = fields.get(f).n;
                field[f][2] = -1;
            }
            for (int hour = 0; hour <= last; hour++) {
                hour(hour);
            }
            for (int k = 0; k < 8; k++) {
                total[0] += there[k] ? sum(part[k]) : 0;
            }
            for (int[] row : kept) {
                total[5] += sum(row);
            }
        }

        private void hour(int hour) {
            rain = new int[w][h][8];
            for (int k = 0; k < clouds.size(); k++) {
                if (there[k]) {
                    int[] by = wind(clouds.get(k).z, hour);
                    x[k] += by[0];
                    y[k] += by[1];
                    if (!inside(x[k], y[k])) {
                        there[k] = false;
                        total[1] += sum(part[k]);
                    }
                }
            }
            for (int k = 0; k < clouds.size(); k++) {
                Cloud c = clouds.get(k);
                if (c.t == hour) {
                    there[k] = true;
                    x[k] = c.x;
                    y[k] = c.y;
                    owner[k] = c.owner;
                    minute[k] = c.minute;
                    part[k][c.owner] = c.q;
                }
            }
            for (int k = 0; k < clouds.size(); k++) {
                for (int j = 0; j < k && there[k]; j++) {
                    if (there[j] && x[j] == x[k] && y[j] == y[k] && clouds.get(j).z == clouds.get(k).z) {
                        join(j, k);
                    }
                }
            }
            for (int k = 0; k < clouds.size(); k++) {
                int cloud = k;
                boolean guns = orders.stream().anyMatch(o -> o.hour == hour && o.cloud == cloud && o.kind == 2);
                if (there[k] && !guns && sum(part[k]) > hold) {
                    fall(k, sum(part[k]) - hold);
                }
            }
            int[] ordered = new int[8];
            for (Order order : orders) {
                if (order.hour == hour && there[order.cloud]) {
                    int n = order.kind == 0 ? order.n : 0;
                    if (order.kind == 1) {
                        this.seed = (int) (this.seed * 1103515245L + 12345L);
                        n = ((this.seed & 0x70000) >> 16) < order.n ? rate : 0;
                    }
                    n = Math.min(n, Math.min(rate - ordered[order.cloud], sum(part[order.cloud])));
                    ordered[order.cloud] += n;
                    fall(order.cloud, n);
                }
            }
            for (int i = 0; i < w; i++) {
                for (int j = 0; j < h; j++) {
                    lie(i, j, rain[i][j], hour, true);
                }
            }
            for (int g = 0; g < glaciers.size(); g++) {
                if (glaciers.get(g).t == hour) {
                    int[] water = kept[g].clone();
                    kept[g] = new int[8];
                    lie(glaciers.get(g).x, glaciers.get(g).y + 1, water, hour, false);
                }
            }
        }

        private void join(int j, int k) {
            boolean later = law == 0 ? minute[k] < minute[j] : sum(part[k]) > sum(part[j]);
            int counts = later ? k : j;
            int all = sum(part[j]) + sum(part[k]);
            if (all == 0) {
                throw new IllegalStateException("one of two that join came in this hour, with water");
            }
            if (law == 2) {
                for (int o = 0; o < 8; o++) {
                    part[j][o] += part[k][o];
                }
            } else {
                part[j] = new int[8];
                part[j][owner[counts]] = all;
                owner[j] = owner[counts];
                minute[j] = minute[counts];
            }
            part[k] = new int[8];
            there[k] = false;
            total[6]++;
        }

        private void fall(int k, int n) {
            int all = sum(part[k]);
            int[] falls = new int[8];
            for (int o = 0; o < 8 && all > 0; o++) {
                falls[o] = n * part[k][o] / all;
            }
            for (int o = 0; sum(falls) < n; o = (o + 1) % 8) {
                if (falls[o] < part[k][o]) {
                    falls[o]++;
                }
            }
            for (int o = 0; o < 8; o++) {
                part[k][o] -= falls[o];
                rain[x[k]][y[k]][o] += falls[o];
            }
        }

        private void lie(int i, int j, int[] water, int hour, boolean mayHail) {
            for (int g = 0; g < glaciers.size(); g++) {
                Glacier glacier = glaciers.get(g);
                if (glacier.x == i && glacier.y == j && hour < glacier.t) {
                    for (int o = 0; o < 8; o++) {
                        kept[g][o] += water[o];
                    }
                    return;
                }
            }
            for (int f = 0; f < fields.size(); f++) {
                if (fields.get(f).x == i && fields.get(f).y == j) {
                    soak(f, water, hour, mayHail);
                    return;
                }
            }
            total[4] += sum(water);
        }

        private void soak(int f, int[] water, int hour, boolean mayHail) {
            Field on = fields.get(f);
            if (mayHail && sum(water) > hail && field[f][2] < 0) {
                field[f][2] = hour;
                account[most(water)][2] += on.v;
                farmer[on.f][1] += on.v;
                total[7]++;
            }
            for (int o = 0; o < 8; o++) {
                for (int one = 0; one < water[o]; one++) {
                    if (field[f][0] > 0) {
                        field[f][0]--;
                        account[o][0] += on.p;
                        farmer[on.f][0] += on.p;
                        total[2]++;
                    } else {
                        field[f][1]++;
                        account[o][1] += flood;
                        farmer[on.f][1] += flood;
                        total[3]++;
                    }
                }
            }
        }
    }

    static int sum(int[] row) {
        int sum = 0;
        for (int one : row) {
            sum += one;
        }
        return sum;
    }

    static int most(int[] row) {
        int best = 0;
        for (int i = 0; i < row.length; i++) {
            best = row[i] > row[best] ? i : best;
        }
        return best;
    }

    /** WORTH by ways of most gain (Bellman and Ford) over CLOUDS, CLOUDS in HOURS, FIELDS. */
    int worth(int bits) {
        int cloudHour = 9;
        int field = cloudHour + 8 * LIMIT;
        int sink = field + 12;
        List<int[]> edges = new ArrayList<>();
        for (int k = 0; k < clouds.size(); k++) {
            if ((bits >> k & 1) == 1) {
                edge(edges, 0, 1 + k, clouds.get(k).q, 0);
                hours(edges, k, cloudHour + LIMIT * k, field);
            }
        }
        for (int f = 0; f < fields.size(); f++) {
            edge(edges, field + f, sink, fields.get(f).n, fields.get(f).p);
        }
        int worth = 0;
        for (int[] way = dearest(edges, sink); way != null; way = dearest(edges, sink)) {
            int many = Integer.MAX_VALUE;
            int gain = 0;
            for (int at = sink; at != 0; at = edges.get(way[at])[0]) {
                many = Math.min(many, edges.get(way[at])[2]);
                gain += edges.get(way[at])[3];
            }
            if (gain <= 0) {
                return worth;
            }
            for (int at = sink; at != 0; at = edges.get(way[at])[0]) {
                edges.get(way[at])[2] -= many;
                edges.get(way[at] ^ 1)[2] += many;
            }
            worth += many * gain;
        }
        return worth;
    }

    /** HOURS in which a CLOUD stays where it is are one node: so much longer it can fall. */
    private void hours(List<int[]> edges, int k, int first, int field) {
        int[] before = null;
        int stays = 0;
        for (int hour = 0; hour <= LIMIT; hour++) {
            int[] at = hour < LIMIT ? alone(k, hour) : null;
            if (place(at) == place(before)) {
                stays++;
                continue;
            }
            for (int f = 0; f < fields.size() && before != null; f++) {
                if (100 * fields.get(f).x + fields.get(f).y == place(before)) {
                    edge(edges, 1 + k, first + hour - 1, rate * stays, 0);
                    edge(edges, first + hour - 1, field + f, rate * stays, 0);
                }
            }
            before = at;
            stays = 1;
        }
    }

    private static void edge(List<int[]> edges, int from, int to, int room, int gain) {
        edges.add(new int[] {from, to, room, gain});
        edges.add(new int[] {to, from, 0, -gain});
    }

    private static int[] dearest(List<int[]> edges, int sink) {
        int[] best = new int[sink + 1];
        int[] by = new int[sink + 1];
        java.util.Arrays.fill(best, Integer.MIN_VALUE);
        best[0] = 0;
        for (boolean changed = true; changed;) {
            changed = false;
            for (int e = 0; e < edges.size(); e++) {
                int[] edge = edges.get(e);
                if (edge[2] > 0 && best[edge[0]] > Integer.MIN_VALUE && best[edge[0]] + edge[3] > best[edge[1]]) {
                    best[edge[1]] = best[edge[0]] + edge[3];
                    by[edge[1]] = e;
                    changed = true;
                }
            }
        }
        return best[sink] == Integer.MIN_VALUE ? null : by;
    }

    /** What a CLOUD adds, over all orders, and how many orders there are. */
    long[] adds(int cloud) {
        int[] worths = new int[1 << clouds.size()];
        for (int bits = 0; bits < worths.length; bits++) {
            worths[bits] = worth(bits);
        }
        long[] sum = new long[2];
        adds(cloud, 0, worths, sum);
        return sum;
    }

    private void adds(int cloud, int ahead, int[] worths, long[] sum) {
        if ((ahead >> cloud & 1) == 1) {
            long orders = 1;
            for (int i = 2; i <= clouds.size() - Integer.bitCount(ahead); i++) {
                orders *= i;
            }
            sum[0] += orders * (worths[ahead] - worths[ahead & ~(1 << cloud)]);
            sum[1] += orders;
            return;
        }
        for (int k = 0; k < clouds.size(); k++) {
            if ((ahead >> k & 1) == 0) {
                adds(cloud, ahead | 1 << k, worths, sum);
            }
        }
    }

    /** Unit by unit: who is served, and the best price of who is not served in all. */
    int[] served(int water) {
        int[] got = new int[bids.size() + 1];
        for (int one = 0; one < water; one++) {
            int best = next(got);
            if (best >= 0) {
                got[best]++;
            }
        }
        int best = next(got);
        got[bids.size()] = best < 0 ? 0 : bids.get(best).price;
        return got;
    }

    private int next(int[] got) {
        int best = -1;
        for (int i = 0; i < bids.size(); i++) {
            if (got[i] < bids.get(i).many && (best < 0 || bids.get(i).price > bids.get(best).price)) {
                best = i;
            }
        }
        return best;
    }

    int[] drought(int water) {
        int[] got = new int[fields.size()];
        for (int one = 0; one < water; one++) {
            int best = -1;
            for (int f = 0; f < got.length; f++) {
                int n = fields.get(f).n;
                if (got[f] < n && (best < 0 || (long) got[f] * fields.get(best).n < (long) got[best] * n)) {
                    best = f;
                }
            }
            if (best >= 0) {
                got[best]++;
            }
        }
        return got;
    }

    /** Ways and SURE ones without a GAUGE (or -1), by going through all assignments. */
    int[] ways(int without) {
        int many = Math.min(6, clouds.size());
        int kinds = gauges.size() + 1;
        int all = 1;
        for (int k = 0; k < many; k++) {
            all *= kinds;
        }
        int[] answer = {0, (1 << many) - 1};
        boolean[][] passes = new boolean[many][gauges.size()];
        for (int i = 0; i < many * gauges.size(); i++) {
            passes[i % many][i / many] = passes(i % many, gauges.get(i / many));
        }
        for (int code = 0; code < all; code++) {
            int[] fell = new int[kinds];
            int rest = code;
            int by = 0;
            boolean can = true;
            for (int k = 0; k < many; k++, rest /= kinds) {
                int g = rest % kinds;
                if (g < gauges.size()) {
                    can &= g != without && passes[k][g];
                    fell[g] += clouds.get(k).q;
                    by |= 1 << k;
                }
            }
            for (int g = 0; g < gauges.size() && can; g++) {
                can = g == without || fell[g] == gauges.get(g).fell;
            }
            if (can) {
                answer[0]++;
                answer[1] &= by;
            }
        }
        answer[1] = answer[0] == 0 ? 0 : answer[1];
        return answer;
    }

    private boolean passes(int cloud, Gauge gauge) {
        for (int hour = 0; hour < LIMIT; hour++) {
            if (place(alone(cloud, hour)) == 100 * gauge.x + gauge.y) {
                return true;
            }
        }
        return false;
    }

    int liar() {
        for (int g = 0; g < gauges.size() && ways(-1)[0] == 0; g++) {
            if (ways(g)[0] > 0) {
                return g;
            }
        }
        return -1;
    }

    boolean[][] doubt(int cloud, int hour) {
        Cloud c = clouds.get(cloud);
        boolean[][] can = new boolean[w][h];
        can[c.x][c.y] = hour >= c.t;
        for (int now = c.t + 1; now <= hour; now++) {
            int[] by = wind(c.z, now);
            boolean[][] next = new boolean[w][h];
            for (int i = 0; i < w; i++) {
                for (int j = 0; j < h; j++) {
                    for (int from = 0; from < w * h; from++) {
                        int x = from % w;
                        int y = from / w;
                        next[i][j] |= can[x][y] && Math.abs(x + by[0] - i) <= 1 && Math.abs(y + by[1] - j) <= 1;
                    }
                }
            }
            can = next;
        }
        return can;
    }

    int worst(int cloud, int hour) {
        boolean[][] can = doubt(cloud, hour);
        int best = -1;
        for (int f = 0; f < fields.size(); f++) {
            Field field = fields.get(f);
            if (can[field.x][field.y] && (best < 0 || field.v > fields.get(best).v)) {
                best = f;
            }
        }
        return best;
    }
}
