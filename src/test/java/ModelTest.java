/** Promises 6 to 28 on skies made by a counted rule, each answer against the Model's. */
public final class ModelTest {
    private static final Check CHECK = new Check();
    private static final int SKIES = 1000;

    private long state = 1;

    public static void main(String[] args) {
        ModelTest test = new ModelTest();
        for (int i = 0; i < SKIES; i++) {
            test.state = 7919L * i + 1;
            test.oneSky(i);
        }
        CHECK.end();
    }

    private int upTo(int most) {
        state = state * 6364136223846793005L + 1442695040888963407L;
        return (int) ((state >>> 33) % (most + 1));
    }

    private void oneSky(int number) {
        Model m = new Model();
        StringBuilder text = new StringBuilder();
        int size = number % 3 == 0 ? 7 : 4;
        m.w = 2 + upTo(size - 2);
        m.h = 2 + upTo(size - 2);
        text.append("sky ").append(m.w).append(' ').append(m.h).append(';');
        laws(m, text);
        winds(m, text);
        clouds(m, text, number % 4 == 0);
        fields(m, text);
        glaciers(m, text);
        OwnedClouds x = Check.under(text.toString());
        paths(number, m, x);
        orders(m, x, number % 4 == 0);
        days(number, m, x);
        markets(number, m, x);
        gauges(number, m, x);
        if (m.clouds.size() <= 4 || number % 10 == 0) {
            worths(number, m, x);
        }
    }

    private void laws(Model m, StringBuilder text) {
        m.law = upTo(2);
        m.rate = upTo(2) == 0 ? 1 + upTo(98) : 1 + upTo(12);
        m.hold = upTo(1) == 0 ? 1 + upTo(60) : 999;
        m.hail = 1 + upTo(20);
        m.flood = upTo(9);
        text.append("join ").append(m.law).append(";rate ").append(m.rate).append(";hold ").append(m.hold);
        text.append(";hail ").append(m.hail).append(";flood ").append(m.flood).append(';');
    }

    private void winds(Model m, StringBuilder text) {
        for (int i = upTo(9); i > 0; i--) {
            Model.Wind wind = new Model.Wind(upTo(2), upTo(1) == 0 ? upTo(8) : upTo(49), upTo(2), upTo(2));
            m.winds.add(wind);
            text.append("wind ").append(wind.z()).append(' ').append(wind.t()).append(' ');
            text.append(wind.i()).append(' ').append(wind.j()).append(';');
        }
    }

    private void clouds(Model m, StringBuilder text, boolean small) {
        int many = upTo(8);
        for (int k = 0; k < many; k++) {
            int x = upTo(m.w - 1);
            int y = upTo(m.h - 1);
            int z = upTo(1) == 0 ? 0 : upTo(2);
            int t = upTo(3) == 0 ? upTo(49) : upTo(6);
            int q = small ? 1 + upTo(9) : upTo(3) == 0 ? 1 + upTo(998) : 1 + upTo(60);
            int owner = 7;
            int minute = 1000;
            text.append("cloud ").append(x).append(' ').append(y).append(' ').append(z).append(' ');
            text.append(t).append(' ').append(q).append(';');
            for (int seen = upTo(2); seen > 0; seen--) {
                int by = upTo(6);
                int at = upTo(6);
                text.append("seen ").append(k).append(' ').append(by).append(' ').append(at).append(';');
                if (at < minute) {
                    owner = by;
                    minute = at;
                }
            }
            m.clouds.add(new Model.Cloud(x, y, z, t, q, owner, minute));
        }
    }

    private void fields(Model m, StringBuilder text) {
        boolean[] there = new boolean[64];
        for (int i = upTo(7); i > 0; i--) {
            Model.Field f = new Model.Field(upTo(m.w - 1), upTo(m.h - 1), upTo(6), upTo(1) * upTo(60), upTo(99), upTo(9));
            if (!there[8 * f.x() + f.y()]) {
                there[8 * f.x() + f.y()] = true;
                m.fields.add(f);
                text.append("field ").append(f.x()).append(' ').append(f.y()).append(' ').append(f.f()).append(' ');
                text.append(f.n()).append(' ').append(f.v()).append(' ').append(f.p()).append(';');
            }
        }
    }

    private void glaciers(Model m, StringBuilder text) {
        boolean[] there = new boolean[64];
        for (int i = upTo(3); i > 0; i--) {
            Model.Glacier g = new Model.Glacier(upTo(m.w - 1), upTo(m.h - 2), upTo(1) == 0 ? upTo(12) : upTo(49));
            if (!there[8 * g.x() + g.y()]) {
                there[8 * g.x() + g.y()] = true;
                m.glaciers.add(g);
                text.append("glacier ").append(g.x()).append(' ').append(g.y()).append(' ').append(g.t()).append(';');
            }
        }
    }

    private void orders(Model m, OwnedClouds x, boolean many) {
        for (int i = m.clouds.isEmpty() ? 0 : many ? 30 : upTo(30); i > 0; i--) {
            int kind = upTo(5) == 0 ? 2 : upTo(1);
            int n = kind == 2 ? 0 : kind == 1 ? upTo(8) : upTo(4) == 0 ? 1 + upTo(998) : 1 + upTo(20);
            Model.Order order = new Model.Order(upTo(2) == 0 ? upTo(49) : upTo(9), upTo(m.clouds.size() - 1), kind, n);
            m.orders.add(order);
            CHECK.is("9", m.orders.size(), () -> x.order(order.hour(), order.cloud(), order.kind(), order.n()));
        }
    }

    private void paths(int number, Model m, OwnedClouds x) {
        for (int k = 0; k < m.clouds.size(); k++) {
            int cloud = k;
            CHECK.is(number + ", 6: " + k, m.clouds.get(k).owner(), () -> x.owner(cloud));
            for (int hour = 0; hour < 50; hour += 1 + upTo(6)) {
                int asked = hour;
                String name = number + ": " + k + ", " + hour;
                CHECK.is("7: " + name, Model.place(m.alone(k, hour)), () -> x.path(cloud, asked));
                long bits = 0;
                boolean[][] can = m.doubt(k, hour);
                for (int cell = 0; cell < m.w * m.h; cell++) {
                    bits |= can[cell % m.w][cell / m.w] ? 1L << cell : 0;
                }
                CHECK.is("27: " + name, bits, () -> x.doubt(cloud, asked));
                CHECK.is("28: " + name, m.worst(k, hour), () -> x.worst(cloud, asked));
            }
        }
    }

    private void days(int number, Model m, OwnedClouds x) {
        int seed = upTo(Integer.MAX_VALUE - 1) * (1 - 2 * upTo(1));
        Model.After end = m.new After(seed, 49);
        int water = 0;
        for (int what = 0; what < 8; what++) {
            int asked = what;
            CHECK.is(number + ", 11: " + what, end.total[what], () -> x.day(seed, asked));
            water += what < 6 ? x.day(seed, what) : 0;
        }
        int all = water;
        CHECK.is(number + ": water adds up", m.clouds.stream().mapToInt(Model.Cloud::q).sum(), () -> all);
        for (int i = 0; i < 8 * 3; i++) {
            int asked = i;
            CHECK.is(number + ", 14: " + i, end.account[i / 3][i % 3], () -> x.account(seed, asked / 3, asked % 3));
        }
        for (int i = 0; i < 7 * 2; i++) {
            int asked = i;
            CHECK.is(number + ", 15: " + i, end.farmer[i / 2][i % 2], () -> x.farmer(seed, asked / 2, asked % 2));
        }
        for (int i = 0; i < m.fields.size() * 3; i++) {
            int asked = i;
            CHECK.is(number + ", 16: " + i, end.field[i / 3][i % 3], () -> x.after(seed, asked / 3, asked % 3));
        }
        for (int hour = 0; hour < 50; hour += hour < 12 ? 1 : 9) {
            hour(number, m, x, seed, hour);
        }
        // a day gone through in part leaves nothing behind
        for (int what = 0; what < 8; what++) {
            int asked = what;
            CHECK.is(number + ", 11 again: " + what, end.total[what], () -> x.day(seed, asked));
        }
    }

    private void hour(int number, Model m, OwnedClouds x, int seed, int hour) {
        Model.After then = m.new After(seed, hour);
        for (int k = 0; k < m.clouds.size(); k++) {
            int cloud = k;
            boolean there = then.there[k];
            String name = number + ": " + k + ", " + hour;
            CHECK.is("12: water, " + name, there ? Model.sum(then.part[k]) : -1, () -> x.cloud(seed, cloud, hour, 0));
            CHECK.is("12: owner, " + name, there ? Model.most(then.part[k]) : -1, () -> x.cloud(seed, cloud, hour, 1));
            CHECK.is("12: where, " + name, there ? 100 * then.x[k] + then.y[k] : -1, () -> x.cloud(seed, cloud, hour, 2));
            for (int owner = 0; owner < 8; owner++) {
                int asked = owner;
                CHECK.is("13: " + name, there ? then.part[k][owner] : 0, () -> x.part(seed, cloud, hour, asked));
            }
        }
    }

    private void worths(int number, Model m, OwnedClouds x) {
        for (int i = 0; i < 4; i++) {
            int bits = i == 0 ? (1 << m.clouds.size()) - 1 : upTo((1 << m.clouds.size()) - 1);
            CHECK.is(number + ", 17: " + bits, m.worth(bits), () -> x.worth(bits));
        }
        if (m.clouds.isEmpty()) {
            return;
        }
        int cloud = upTo(m.clouds.size() - 1);
        if (m.clouds.size() > 6) {
            CHECK.is(number + ", 18: too many", -1, () -> x.share(cloud, 0));
        } else {
            long[] due = m.adds(cloud);
            CHECK.is(number + ", 18: like", due[0] * x.share(cloud, 1), () -> x.share(cloud, 0) * due[1]);
            CHECK.is(number + ", 18: shortest", 1, () -> common(x.share(cloud, 0), x.share(cloud, 1)));
        }
    }

    private static long common(long a, long b) {
        return b == 0 ? a : common(b, a % b);
    }

    private void markets(int number, Model m, OwnedClouds x) {
        for (int i = upTo(8); i > 0; i--) {
            Model.Bid bid = new Model.Bid(1 + upTo(upTo(1) * 900 + 30), upTo(1) * upTo(96) + upTo(3));
            m.bids.add(bid);
            CHECK.is("19", m.bids.size(), () -> x.bid(1, bid.many(), bid.price()));
        }
        for (int i = 0; i < 3; i++) {
            int water = upTo(1) == 0 ? upTo(60) : upTo(2500);
            int[] due = m.served(water);
            int price = due[m.bids.size()];
            int sold = 0;
            for (int b = 0; b < m.bids.size(); b++) {
                int asked = b;
                sold += due[b];
                CHECK.is(number + ", 21: " + b + " of " + water, due[b], () -> x.gets(water, asked));
            }
            CHECK.is(number + ", 22: price for " + water, price, () -> x.settled(water, 0));
            CHECK.is(number + ", 22: all for " + water, sold * price, () -> x.settled(water, 1));
            int[] shared = m.drought(water);
            for (int f = 0; f < shared.length; f++) {
                int asked = f;
                CHECK.is(number + ", 23: " + f + " of " + water, shared[f], () -> x.drought(water, asked));
            }
        }
    }

    private void gauges(int number, Model m, OwnedClouds x) {
        boolean[] there = new boolean[64];
        for (int i = upTo(4); i > 0; i--) {
            int gx = upTo(m.w - 1);
            int gy = upTo(m.h - 1);
            int fell = 0;
            if (!m.clouds.isEmpty()) {
                int by = upTo(m.clouds.size() - 1);
                int[] at = m.alone(by, Math.min(49, m.clouds.get(by).t() + upTo(3)));
                gx = at == null ? gx : at[0];
                gy = at == null ? gy : at[1];
                fell = m.clouds.get(by).q() + upTo(1) * m.clouds.get(upTo(m.clouds.size() - 1)).q() + upTo(4) / 4;
            }
            if (!there[8 * gx + gy]) {
                there[8 * gx + gy] = true;
                Model.Gauge gauge = new Model.Gauge(gx, gy, fell);
                m.gauges.add(gauge);
                CHECK.is("24", m.gauges.size(), () -> x.gauge(gauge.x(), gauge.y(), gauge.fell()));
            }
        }
        int[] due = m.ways(-1);
        CHECK.is(number + ", 26: ways", due[0], () -> x.explain(0));
        CHECK.is(number + ", 26: sure", due[1], () -> x.explain(1));
        CHECK.is(number + ", 26: liar", m.liar(), () -> x.explain(2));
    }
}
