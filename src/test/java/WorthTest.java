/** Promises 17 and 18 on crowded skies: many CLOUDS wander over the same FIELDS, each answer against the Model's. */
public final class WorthTest {
    private static final Check CHECK = new Check();

    private long state;

    public static void main(String[] args) {
        WorthTest test = new WorthTest();
        for (int i = 0; i < 1500; i++) {
            test.state = 104729L * i + 3;
            test.oneSky(i);
        }
        CHECK.end();
    }

    private int upTo(int most) {
        state = state * 6364136223846793005L + 1442695040888963407L;
        return (int) ((state >>> 33) % (most + 1));
    }

    private void oneSky(int number) {
        Model m = new Model();
        m.w = 2 + upTo(2);
        m.h = 2 + upTo(2);
        m.rate = 1 + upTo(9);
        StringBuilder text = new StringBuilder();
        text.append("sky ").append(m.w).append(' ').append(m.h).append(";rate ").append(m.rate).append(';');
        for (int i = 0; i < 9; i++) {
            Model.Wind wind = new Model.Wind(i % 3, 1 + upTo(8), upTo(2), upTo(2));
            m.winds.add(wind);
            text.append("wind ").append(wind.z()).append(' ').append(wind.t()).append(' ');
            text.append(wind.i()).append(' ').append(wind.j()).append(';');
        }
        for (int k = upTo(8); k > 0; k--) {
            Model.Cloud c = new Model.Cloud(upTo(m.w - 1), upTo(m.h - 1), upTo(2), upTo(9), 1 + upTo(40), 7, 1000);
            m.clouds.add(c);
            text.append("cloud ").append(c.x()).append(' ').append(c.y()).append(' ').append(c.z()).append(' ');
            text.append(c.t()).append(' ').append(c.q()).append(';');
        }
        for (int cell = 0; cell < m.w * m.h && m.fields.size() < 12; cell++) {
            Model.Field f = new Model.Field(cell % m.w, cell / m.w, 0, upTo(25), 0, upTo(9));
            m.fields.add(f);
            text.append("field ").append(f.x()).append(' ').append(f.y()).append(" 0 ").append(f.n());
            text.append(" 0 ").append(f.p()).append(';');
        }
        OwnedClouds x = Check.under(text.toString());
        for (int bits = 0; bits < 1 << m.clouds.size(); bits += 1 + upTo(40)) {
            int asked = bits;
            CHECK.is(number + ", 17: " + bits + " of " + text, m.worth(bits), () -> x.worth(asked));
        }
        int all = (1 << m.clouds.size()) - 1;
        CHECK.is(number + ", 17: all of " + text, m.worth(all), () -> x.worth(all));
        if (number % 20 == 0 && m.clouds.size() < 6) {
            shares(number, m, x);
        }
    }

    private static void shares(int number, Model m, OwnedClouds x) {
        long together = 0;
        for (int k = 0; k < m.clouds.size(); k++) {
            int cloud = k;
            long[] due = m.adds(k);
            CHECK.is(number + ", 18: " + k, due[0] * x.share(k, 1), () -> x.share(cloud, 0) * due[1]);
            together += x.share(k, 0) * 720 / x.share(k, 1);
        }
        long sum = together;
        int all = (1 << m.clouds.size()) - 1;
        CHECK.is(number + ", 18: shares add up", 720L * m.worth(all), () -> sum);
    }
}
