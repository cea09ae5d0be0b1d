import java.util.Arrays;
import java.util.List;

/** All promises: calls with any numbers in any state throw what the document names and nothing else, and then change nothing. */
public final class AnyCallTest {
    private static final Check CHECK = new Check();
    private static final List<String> TEXTS = List.of("", "cloud 0 0 0 0 999;field 0 0 0 99 99 9;",
        "sky 2 2;join 2;hold 1;rate 99;" + "cloud 0 0 0 0 999;".repeat(8) + "glacier 0 0 3;field 0 1 1 9 9 9;field 1 0 1 0 0 0;",
        "sky 8 8;cloud 7 7 0 49 1;wind 0 0 0 2;cloud 3 3 1 4 9;seen 1 6 0;field 7 7 6 99 99 9;", "sky 9 9;", "cloud 0");

    private long state = 5;
    private int small;

    public static void main(String[] args) {
        AnyCallTest test = new AnyCallTest();
        for (int i = 0; i < 200; i++) {
            test.oneObject(i);
        }
        CHECK.end();
    }

    private int upTo(int most) {
        state = state * 6364136223846793005L + 1442695040888963407L;
        return (int) ((state >>> 33) % (most + 1));
    }

    /** Mostly a number that a call may take; else one near it, or a far one. */
    private int any() {
        switch (upTo(small)) {
            case 0: return Integer.MIN_VALUE + upTo(2);
            case 1: return Integer.MAX_VALUE - upTo(2);
            case 2: return -1 - upTo(3);
            case 3: return upTo(20000);
            case 4: return upTo(60);
            default: return upTo(upTo(9));
        }
    }

    private void oneObject(int number) {
        OwnedClouds x = new OwnedClouds();
        small = 5 + number % 30;
        for (int call = 0; call < 512; call++) {
            int which = upTo(33);
            int[] with = {any(), any(), any(), any(), any()};
            String name = number + ", call " + call + ": " + which + Arrays.toString(with);
            String before = seen(x);
            String got = Check.told(() -> call(x, which, with));
            if (got.startsWith("throws.")) {
                CHECK.is(name + " " + got, 1, () -> named(which).contains(got) ? 1 : 0);
                CHECK.is(name + " changed something", before, seen(x));
            }
        }
    }

    private static String seen(OwnedClouds x) {
        StringBuilder all = new StringBuilder();
        for (int what = 0; what < 10; what++) {
            all.append(x.told(what)).append(' ').append(x.count(what)).append(' ');
        }
        return all.append(x.fault()).append(' ').append(x.explain(0)).append(' ').append(x.settled(20, 1)).toString();
    }

    private long call(OwnedClouds x, int which, int[] n) {
        switch (which) {
            case 0: return x.feed(n[0], n[1], n[2], n[3], n[4]);
            case 1: return x.sky(n[0]);
            case 2: return x.fault();
            case 3: return x.told(n[0]);
            case 4: return x.owner(n[0]);
            case 5: return x.path(n[0], n[1]);
            case 6: return x.field(n[0], n[1]);
            case 7: case 31: return x.order(n[0], n[1], n[2], n[3]);
            case 8: return upTo(9) == 0 ? x.clear() : 0;
            case 9: return x.day(n[0], n[1]);
            case 10: return x.cloud(n[0], n[1], n[2], n[3]);
            case 11: return x.part(n[0], n[1], n[2], n[3]);
            case 12: return x.account(n[0], n[1], n[2]);
            case 13: return x.farmer(n[0], n[1], n[2]);
            case 14: return x.after(n[0], n[1], n[2]);
            case 15: return x.worth(n[0]);
            case 16: return x.share(n[0], n[1]);
            case 17: return x.bid(n[0], n[1], n[2]);
            case 18: return upTo(9) == 0 ? x.forget() : 0;
            case 19: return x.gets(n[0], n[1]);
            case 20: return x.settled(n[0], n[1]);
            case 21: return x.drought(n[0], n[1]);
            case 22: case 32: return x.gauge(n[0], n[1], n[2]);
            case 23: return upTo(9) == 0 ? x.away() : 0;
            case 24: return x.explain(n[0]);
            case 25: return x.doubt(n[0], n[1]);
            case 26: return x.worst(n[0], n[1]);
            case 27: return x.image();
            case 28: return x.restore();
            case 29: return x.count(n[0]);
            case 30: return Check.feed(x, TEXTS.get(upTo(5)));
            default: return upTo(5) == 0 ? x.sky(Check.feed(x, TEXTS.get(upTo(3)))) : 0;
        }
    }

    private static List<String> named(int which) {
        switch (which) {
            case 1: case 3: case 9: case 12: case 13: case 15: case 17: case 20: case 22: case 24: case 32:
                return List.of(Check.IAE);
            case 33: return List.of(Check.IAE);
            case 4: return List.of(Check.NSE);
            case 5: case 7: case 10: case 11: case 16: case 25: case 26: case 31:
                return List.of(Check.NSE, Check.IAE);
            case 6: case 14: case 19: case 21: return List.of(Check.IOOBE, Check.IAE);
            default: return List.of();
        }
    }
}
