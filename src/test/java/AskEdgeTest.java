/** The edges that the document names in part 3 of its terms and in promises 17 to 31: at each, and a step beside it. */
public final class AskEdgeTest {
    private static final Check CHECK = new Check();

    public static void main(String[] args) {
        lastCall();
        goesAlone();
        rateInEachHour();
        thirstInAll();
        theMost();
        meanOfOrders();
        sixClouds();
        bidsServedFirst();
        notServedInAll();
        eightBids();
        droughtOneByOne();
        noneAboveItsThirst();
        gaugesToACell();
        allItsWater();
        firstSixClouds();
        liar();
        doubtOfAnHour();
        insideTheSky();
        doubtBits();
        worstField();
        worthOfBits();
        shareWhat();
        bidOf();
        forgetAll();
        getsOf();
        settledWhat();
        droughtOf();
        gaugeOf();
        awayAll();
        explainWhat();
        threeImages();
        latestImage();
        countWhat();
        severalWrong();
        none();
        CHECK.end();
    }

    private static void worth(String text, String dues) {
        OwnedClouds x = Check.under(text);
        CHECK.edge(text + " worth of", dues, x::worth);
    }

    private static OwnedClouds gauged(String text, int[]... gauges) {
        OwnedClouds x = Check.under(text);
        for (int[] one : gauges) {
            x.gauge(one[0], one[1], one[2]);
        }
        return x;
    }

    /** A GAUGE as a row. */
    private static int[] at(int x, int y, int fell) {
        return new int[] {x, y, fell};
    }

    private static void explained(String name, OwnedClouds x, String dues) {
        CHECK.edge(name + ", explain", dues, x::explain);
    }

    private static void lastCall() {
        CHECK.sentence("An object is used for at most 512 calls after it has been made");
        OwnedClouds x = new OwnedClouds();
        int calls = 0;
        for (int i = 0; i < 127; i++) {
            x.bid(1, 1, 1);
            x.image();
            x.restore();
            x.forget();
            calls += 4;
        }
        CHECK.is("call 509", 1, () -> x.bid(6, 999, 99));
        CHECK.is("call 510", 98901, () -> x.settled(999, 1) + 999 * 99);
        CHECK.is("call 511", 999, () -> x.gets(9999, 0));
        CHECK.is("call 512, the last", Check.IAE, () -> x.told(10));
        int made = calls;
        CHECK.is("calls ahead of these", 508, () -> made);
    }

    private static void goesAlone() {
        CHECK.sentence("WORTH of some CLOUDS: each goes alone, joins none, holds all");
        // both stand in one CELL; joined they would let R fall together, held to 1 nothing would be left
        worth("rate 1;hold 1;join 1;cloud 0 0 0 40 99;cloud 0 0 0 40 99;field 0 0 0 99 0 1;", "0:0 1:10 2:10 3:20");
        OwnedClouds x = Check.under("cloud 0 0 0 0 9;field 0 0 0 9 0 1;");
        x.order(0, 0, 0, 9);
        CHECK.is("whatever is ordered", 9, () -> x.worth(1));
    }

    private static void rateInEachHour() {
        CHECK.sentence("in each HOUR as much as R of each can fall");
        for (int t = 47; t <= 49; t++) {
            worth("rate 10;cloud 0 0 0 " + t + " 999;field 0 0 0 99 0 1;", "1:" + 10 * (50 - t));
        }
        worth("rate 1;cloud 0 0 0 0 999;field 0 0 0 99 0 1;", "1:50");
        worth("rate 99;cloud 0 0 0 49 999;field 0 0 0 99 0 1;", "1:99");
        worth("rate 98;cloud 0 0 0 49 999;field 0 0 0 99 0 1;", "1:98");
        for (int q = 9; q <= 11; q++) {
            worth("rate 10;cloud 0 0 0 49 " + q + ";field 0 0 0 99 0 1;", "1:" + Math.min(q, 10));
            worth("rate 5;cloud 0 0 0 48 " + q + ";field 0 0 0 99 0 1;", "1:" + Math.min(q, 10));
        }
        // it comes to the FIELD in HOUR 1, and leaves it in HOUR 1 and l
        for (int left = 2; left <= 4; left++) {
            worth("rate 10;cloud 0 0 0 0 999;wind 0 1 2 1;wind 0 2 1 1;wind 0 " + left + " 2 1;field 1 0 0 99 0 1;",
                "1:" + 10 * (left - 1));
        }
        worth("sky 2 2;rate 10;cloud 1 0 0 0 999;wind 0 3 2 1;field 1 0 0 99 0 1;", "1:30");
    }

    private static void thirstInAll() {
        CHECK.sentence("each FIELD takes its thirst in all");
        for (int n = 19; n <= 21; n++) {
            worth("rate 10;cloud 0 0 0 48 999;field 0 0 0 " + n + " 0 3;", "1:" + 3 * Math.min(n, 20));
            worth("rate 10;cloud 0 0 0 0 10;cloud 0 0 0 0 10;field 0 0 0 " + n + " 0 3;", "1:30 2:30 3:" + 3 * Math.min(n, 20));
        }
        worth("cloud 0 0 0 0 9;field 0 0 0 0 0 9;", "1:0");
        worth("cloud 0 0 0 0 9;field 0 0 0 1 0 9;", "1:9");
        worth("cloud 0 0 0 0 9;field 0 0 0 9 0 0;", "1:0");
        worth("cloud 0 0 0 0 9;field 0 1 0 9 0 9;field 1 0 0 9 0 9;", "1:0");
        worth("cloud 0 0 0 0 9;glacier 0 0 49;field 0 0 0 9 0 1;", "1:9");
    }

    private static void theMost() {
        CHECK.sentence("the most that FIELDS can pay together");
        String wind = "wind 0 1 2 1;wind 0 2 1 1;";
        worth("rate 99;cloud 0 0 0 0 10;" + wind + "field 0 0 0 10 0 8;field 1 0 0 10 0 9;", "1:90");
        worth("rate 99;cloud 0 0 0 0 10;" + wind + "field 0 0 0 10 0 9;field 1 0 0 10 0 8;", "1:90");
        worth("rate 99;cloud 0 0 0 0 10;" + wind + "field 0 0 0 9 0 9;field 1 0 0 10 0 8;", "1:89");
        worth("rate 99;cloud 0 0 0 0 11;" + wind + "field 0 0 0 10 0 9;field 1 0 0 10 0 8;", "1:98");
        // the first can serve both FIELDS, the second the dearer one alone
        worth("rate 99;cloud 0 0 0 0 10;cloud 1 0 0 1 10;" + wind + "field 0 0 0 10 0 8;field 1 0 0 10 0 9;", "1:90 2:90 3:170");
        worth("rate 9;cloud 0 0 0 0 10;cloud 1 0 0 49 10;" + wind + "field 0 0 0 10 0 8;field 1 0 0 10 0 9;", "1:90 2:81 3:162");
    }

    private static void share(String text, int cloud, long above, long below) {
        OwnedClouds x = Check.under(text);
        CHECK.is(text + " above of " + cloud, above, () -> x.share(cloud, 0));
        CHECK.is(text + " below of " + cloud, below, () -> x.share(cloud, 1));
    }

    private static void meanOfOrders() {
        CHECK.sentence("the mean, over all orders in which CLOUDS come one behind the other, of what it adds to the WORTH of those ahead (a fraction)");
        share("cloud 0 0 0 0 9;field 0 0 0 8 0 1;", 0, 8, 1);
        share("cloud 0 0 0 0 9;", 0, 0, 1);
        String two = "cloud 0 0 0 0 5;cloud 0 0 0 0 5;";
        share(two + "field 0 0 0 9 0 1;", 0, 9, 2);
        share(two + "field 0 0 0 10 0 1;", 0, 5, 1);
        share(two + "field 0 0 0 11 0 1;", 0, 5, 1);
        share(two + "field 0 0 0 0 0 1;", 1, 0, 1);
        share("cloud 0 0 0 0 4;cloud 0 0 0 0 6;field 0 0 0 9 0 1;", 0, 7, 2);
        share("cloud 0 0 0 0 4;cloud 0 0 0 0 6;field 0 0 0 9 0 1;", 1, 11, 2);
        // of the six orders the first adds 1 1 1 0 1 0, the second 2 0 2 2 0 1, the third 1 3 1 2 3 3
        String three = "cloud 0 0 0 0 1;cloud 0 0 0 0 2;cloud 0 0 0 0 3;field 0 0 0 4 0 1;";
        share(three, 0, 2, 3);
        share(three, 1, 7, 6);
        share(three, 2, 13, 6);
    }

    private static void sixClouds() {
        CHECK.sentence("SHARE of a CLOUD (6 CLOUDS at most)");
        for (int many = 1; many <= 8; many++) {
            OwnedClouds x = Check.under("cloud 0 0 0 0 9;".repeat(many) + "field 0 0 0 7 0 1;");
            boolean can = many <= 6;
            int clouds = many;
            CHECK.is(many + " clouds, above", can ? 7 : -1, () -> x.share(clouds - 1, 0));
            CHECK.is(many + " clouds, below", can ? many : -1, () -> x.share(clouds - 1, 1));
            CHECK.is(many + " clouds, no such", Check.NSE, () -> x.share(clouds, 0));
            CHECK.is(many + " clouds, another what", Check.IAE, () -> x.share(0, 2));
        }
        CHECK.sentence("NONE: more than 6 CLOUDS.");
        OwnedClouds seven = Check.under("cloud 0 0 0 0 9;".repeat(7));
        CHECK.edge("of seven", "-1:NSE 0:-1 5:-1 6:-1 7:NSE", k -> (int) seven.share(k, 0));
        OwnedClouds six = Check.under("cloud 0 0 0 0 9;".repeat(6));
        CHECK.edge("of six", "-1:NSE 0:0 5:0 6:NSE 7:NSE", k -> (int) six.share(k, 0));
    }

    private static OwnedClouds bids(int[]... all) {
        OwnedClouds x = new OwnedClouds();
        for (int[] one : all) {
            x.bid(0, one[0], one[1]);
        }
        return x;
    }

    private static void bidsServedFirst() {
        CHECK.sentence("of so much WATER those who bid more are served first, of like ones the first");
        for (int price = 49; price <= 51; price++) {
            OwnedClouds x = bids(new int[] {10, 50}, new int[] {10, price});
            CHECK.edge("the first of 50 and " + price + ", of water 10, gets", price > 50 ? "0:0 1:10" : "0:10 1:0", i -> x.gets(10, i));
            CHECK.edge("the first of 50 and " + price + ", of water 15, gets", price > 50 ? "0:5 1:10" : "0:10 1:5", i -> x.gets(15, i));
        }
        OwnedClouds x = bids(new int[] {3, 5}, new int[] {3, 99}, new int[] {3, 5}, new int[] {3, 0}, new int[] {3, 99});
        String[] dues = {"0:0 1:0 2:0 3:0 4:0", "0:0 1:1 2:0 3:0 4:0", "0:0 1:3 2:0 3:0 4:1",
            "0:1 1:3 2:0 3:0 4:3", "0:3 1:3 2:1 3:0 4:3", "0:3 1:3 2:3 3:1 4:3", "0:3 1:3 2:3 3:3 4:3"};
        int[] waters = {0, 1, 4, 7, 10, 13, 15};
        for (int i = 0; i < waters.length; i++) {
            int water = waters[i];
            CHECK.edge("of water " + water + ", gets", dues[i], bid -> x.gets(water, bid));
        }
    }

    private static void notServedInAll() {
        CHECK.sentence("each pays for each of his what the best bid not served in all bids (0 without)");
        OwnedClouds x = bids(new int[] {10, 8}, new int[] {10, 5}, new int[] {10, 5}, new int[] {10, 2});
        CHECK.edge("price, of water", "0:8 1:8 9:8 10:5 11:5 19:5 20:5 21:5 29:5 30:2 31:2 39:2 40:0 41:0 9999:0",
            water -> x.settled(water, 0));
        CHECK.edge("all pay, of water", "0:0 1:8 9:72 10:50 11:55 20:100 29:145 30:60 31:62 39:78 40:0 41:0 9999:0",
            water -> x.settled(water, 1));
        OwnedClouds one = bids(new int[] {999, 99});
        CHECK.edge("one's price, of water", "998:99 999:0 1000:0", water -> one.settled(water, 0));
        CHECK.edge("one pays, of water", "998:98802 999:0 1000:0", water -> one.settled(water, 1));
        OwnedClouds zero = bids(new int[] {5, 0});
        CHECK.edge("bids 0, of water", "0:0 4:0 5:0", water -> zero.settled(water, 0));
        OwnedClouds none = new OwnedClouds();
        CHECK.edge("no bid, price of water", "0:0 1:0 9999:0", water -> none.settled(water, 0));
        CHECK.edge("no bid, all pay of water", "0:0 1:0 9999:0", water -> none.settled(water, 1));
    }

    private static void eightBids() {
        CHECK.sentence("BIDS: FARMER, how many, for how much each (8 at most)");
        OwnedClouds x = new OwnedClouds();
        for (int i = 1; i <= 8; i++) {
            CHECK.is("bid", i, () -> x.bid(0, 999, 99));
        }
        CHECK.is("one more", -1, () -> x.bid(0, 1, 1));
        CHECK.edge("of water", "7991:99 7992:0 7993:0", water -> x.settled(water, 0));
        CHECK.edge("all pay of water", "7991:791109 7992:0 7993:0", water -> x.settled(water, 1));
        CHECK.edge("the last gets of water", "6993:0 6994:1 7991:998 7992:999 7993:999", water -> x.gets(water, 7));
        OwnedClouds last = bids(new int[] {1, 1}, new int[] {1, 2}, new int[] {1, 3}, new int[] {1, 4}, new int[] {1, 5}, new int[] {1, 6},
            new int[] {1, 7}, new int[] {1, 8});
        CHECK.edge("the eighth is the best, of water 2, gets", "0:0 5:0 6:1 7:1", i -> last.gets(2, i));
        CHECK.edge("its price, of water", "0:8 1:7 2:6 7:1 8:0", water -> last.settled(water, 0));
        CHECK.sentence("A BID: how many there are; -1: there are 8.");
        CHECK.is("one more", -1, () -> x.bid(6, 1, 1));
        CHECK.is("there are 8", 8, () -> x.count(1));
        CHECK.is("wrong when full", Check.IAE, () -> x.bid(7, 1, 1));
        x.forget();
        CHECK.is("again", 1, () -> x.bid(6, 1, 1));
    }

    private static void droughtOneByOne() {
        CHECK.sentence("so much WATER is shared one by one: to the FIELD that has the least part of its thirst (compared as fractions), of these the first");
        OwnedClouds x = Check.under("field 0 0 0 3 0 0;field 1 0 0 2 0 0;field 2 0 0 3 0 0;");
        // 1 0 0, 1 1 0, 1 1 1, then a third is less than a half: 2 1 1, 2 1 2, then a half: 2 2 2
        CHECK.edge("first, of water", "0:0 1:1 2:1 3:1 4:2 5:2 6:2 7:3 8:3", water -> x.drought(water, 0));
        CHECK.edge("second, of water", "0:0 1:0 2:1 3:1 4:1 5:1 6:2 7:2 8:2", water -> x.drought(water, 1));
        CHECK.edge("third, of water", "0:0 1:0 2:0 3:1 4:1 5:2 6:2 7:2 8:3", water -> x.drought(water, 2));
        // 65 of 98 is less than 66 of 99, though both are 0.66
        OwnedClouds near = Check.under("field 0 0 0 99 0 0;field 1 0 0 98 0 0;");
        CHECK.edge("first of 99, 98, of water", "1:1 2:1 3:2 4:2 131:66 132:66 133:67 197:99", water -> near.drought(water, 0));
        CHECK.edge("second of 99, 98, of water", "1:0 2:1 3:1 4:2 131:65 132:66 133:66 197:98", water -> near.drought(water, 1));
    }

    private static void noneAboveItsThirst() {
        CHECK.sentence("none above its thirst");
        OwnedClouds x = Check.under("field 0 0 0 0 0 0;field 1 0 0 1 0 0;field 2 0 0 99 0 0;");
        CHECK.edge("thirst 0, of water", "0:0 1:0 100:0 101:0 9999:0", water -> x.drought(water, 0));
        CHECK.edge("thirst 1, of water", "0:0 1:1 100:1 101:1 9999:1", water -> x.drought(water, 1));
        CHECK.edge("thirst 99, of water", "0:0 1:0 2:1 99:98 100:99 101:99 9999:99", water -> x.drought(water, 2));
        StringBuilder twelve = new StringBuilder();
        for (int i = 0; i < 12; i++) {
            twelve.append("field ").append(i % 6).append(' ').append(i / 6).append(" 0 99 0 0;");
        }
        OwnedClouds all = Check.under(twelve.toString());
        CHECK.edge("last of twelve, of water", "11:0 12:1 1187:98 1188:99 1189:99 9999:99", water -> all.drought(water, 11));
        CHECK.edge("first of twelve, of water", "0:0 1:1 12:1 13:2 1176:98 1177:99 1189:99", water -> all.drought(water, 0));
    }

    private static void gaugesToACell() {
        CHECK.sentence("GAUGES (9 at most, one to a CELL) tell how much fell there");
        OwnedClouds x = new OwnedClouds();
        for (int i = 0; i < 9; i++) {
            int cell = i;
            CHECK.is("gauge", i + 1, () -> x.gauge(cell % 6, cell / 6, 0));
            CHECK.is("again there", -1, () -> x.gauge(cell % 6, cell / 6, 1));
        }
        CHECK.is("a tenth", -1, () -> x.gauge(5, 4, 0));
        CHECK.is("there are 9", 9, () -> x.count(2));
        OwnedClouds two = new OwnedClouds();
        CHECK.is("one", 1, () -> two.gauge(2, 3, 0));
        CHECK.is("the same cell", -1, () -> two.gauge(2, 3, 0));
        CHECK.is("one across", 2, () -> two.gauge(3, 3, 0));
        CHECK.is("one down", 3, () -> two.gauge(2, 4, 0));
        CHECK.is("the other way round", 4, () -> two.gauge(3, 2, 0));
        OwnedClouds last = Check.under("cloud 2 1 0 0 5;");
        for (int i = 0; i < 9; i++) {
            last.gauge(i % 6, i / 6, i == 8 ? 5 : 0);
        }
        explained("the ninth counts", last, "0:1 1:1 2:-1");
    }

    private static void allItsWater() {
        CHECK.sentence("of each CLOUD, by what GAUGE all its WATER fell at once, where it is in some HOUR, or by none. How many ways; in which each CLOUD fell by some GAUGE (SURE)");
        String one = "cloud 1 1 0 3 5;wind 0 5 2 1;wind 0 6 1 1;";
        for (int fell = 4; fell <= 6; fell++) {
            explained("5, told " + fell, gauged(one, at(1, 1, fell)), fell == 5 ? "0:1 1:1 2:-1" : "0:0 1:0 2:0");
        }
        explained("told 0", gauged(one, at(1, 1, 0)), "0:1 1:0 2:-1");
        explained("where it comes later", gauged(one, at(2, 1, 5)), "0:1 1:1 2:-1");
        explained("where it never is", gauged(one, at(3, 1, 5)), "0:0 1:0 2:0");
        explained("where it never is", gauged(one, at(0, 1, 5)), "0:0 1:0 2:0");
        explained("not in two", gauged(one, at(1, 1, 3), at(2, 1, 2)), "0:0 1:0 2:-1");
        explained("no gauge", gauged(one), "0:1 1:0 2:-1");
        explained("in the last hour", gauged("cloud 1 1 0 49 5;", at(1, 1, 5)), "0:1 1:1 2:-1");
        explained("it comes there in the last", gauged("cloud 1 1 0 48 5;wind 0 49 2 1;", at(2, 1, 5)), "0:1 1:1 2:-1");
        explained("by hours it is one way", gauged("cloud 1 1 0 0 5;", at(1, 1, 5), at(2, 2, 0)), "0:1 1:1 2:-1");
        String two = "cloud 1 1 0 0 5;cloud 1 1 0 0 5;";
        explained("one of two", gauged(two, at(1, 1, 5)), "0:2 1:0 2:-1");
        explained("both", gauged(two, at(1, 1, 10)), "0:1 1:3 2:-1");
        explained("of three", gauged(two + "cloud 1 1 0 0 6;", at(1, 1, 11)), "0:2 1:4 2:-1");
        explained("none and both", gauged(two + "cloud 1 1 0 0 10;", at(1, 1, 10)), "0:2 1:0 2:-1");
        explained("joined, yet each alone", gauged(two + "wind 0 1 2 1;wind 0 2 1 1;", at(1, 1, 5), at(2, 1, 5)), "0:2 1:3 2:-1");
        explained("more than it holds, than the rate", gauged("hold 1;rate 1;cloud 1 1 0 0 999;", at(1, 1, 999)), "0:1 1:1 2:-1");
    }

    private static void firstSixClouds() {
        CHECK.sentence("first 6 CLOUDS; alone, as for WORTH");
        String texts = "cloud 1 1 0 0 1;cloud 1 1 0 0 2;cloud 1 1 0 0 4;cloud 1 1 0 0 8;cloud 1 1 0 0 16;"
            + "cloud 1 1 0 0 32;cloud 1 1 0 0 64;cloud 1 1 0 0 128;";
        for (int fell : new int[] {0, 1, 31, 32, 33, 62, 63}) {
            explained("told " + fell, gauged(texts, at(1, 1, fell)), "0:1 1:" + fell + " 2:-1");
        }
        for (int fell : new int[] {64, 65, 127, 128, 255}) {
            explained("told " + fell, gauged(texts, at(1, 1, fell)), "0:0 1:0 2:0");
        }
        explained("of five", gauged(texts.substring(0, texts.indexOf("cloud 1 1 0 0 32;")), at(1, 1, 32)), "0:0 1:0 2:0");
    }

    private static void liar() {
        CHECK.sentence("the LIAR: the first GAUGE without which there is a way, if there is none");
        String text = "cloud 1 1 0 0 5;wind 0 1 2 1;wind 0 2 1 1;";
        explained("none lies", gauged(text, at(1, 1, 5), at(2, 1, 0)), "0:1 2:-1");
        explained("either", gauged(text, at(1, 1, 5), at(2, 1, 5)), "0:0 2:0");
        explained("the second", gauged(text, at(1, 1, 5), at(2, 1, 4)), "0:0 2:1");
        explained("the first", gauged(text, at(1, 1, 6), at(2, 1, 5)), "0:0 2:0");
        explained("the third", gauged(text, at(0, 0, 0), at(1, 1, 5), at(0, 1, 1)), "0:0 2:2");
        explained("none by one", gauged(text, at(1, 1, 6), at(2, 1, 4)), "0:0 2:-1");
        explained("none by one of three", gauged(text, at(0, 0, 1), at(1, 1, 5), at(2, 1, 5)), "0:0 2:-1");
        explained("no gauge", gauged(text), "0:1 2:-1");
        explained("asked for first", gauged(text, at(1, 1, 5)), "2:-1 0:1");
        explained("asked for first, a liar", gauged(text, at(1, 1, 4)), "2:0 0:0 1:0");
        explained("asked for first, none by one", gauged(text, at(1, 1, 6), at(2, 1, 4)), "2:-1 0:0");
        OwnedClouds ninth = Check.under(text);
        for (int i = 0; i < 9; i++) {
            ninth.gauge(i % 3, 2 + i / 3, i == 8 ? 1 : 0);
        }
        explained("the ninth", ninth, "0:0 2:8");
    }

    private static void doubtOfAnHour() {
        CHECK.sentence("each HOUR a CLOUD may go by the wind, or one more or less across, down, or both (inside the SKY): where it can be in an HOUR");
        OwnedClouds x = Check.under("sky 8 8;cloud 3 3 0 5 1;cloud 3 3 1 49 1;wind 0 7 2 1;");
        CHECK.is("not yet", 0, () -> x.doubt(0, 4));
        CHECK.is("as it comes", 1L << 27, () -> x.doubt(0, 5));
        CHECK.is("an hour later", square(2, 2, 4, 4), () -> x.doubt(0, 6));
        CHECK.is("by the wind", square(2, 1, 6, 5), () -> x.doubt(0, 7));
        CHECK.is("not yet, of the last hour", 0, () -> x.doubt(1, 48));
        CHECK.is("the last hour", 1L << 27, () -> x.doubt(1, 49));
        OwnedClouds first = Check.under("sky 8 8;cloud 3 3 0 0 1;");
        CHECK.is("hour 0", 1L << 27, () -> first.doubt(0, 0));
        CHECK.is("hour 1", square(2, 2, 4, 4), () -> first.doubt(0, 1));
        for (int i = 0; i <= 2; i++) {
            for (int j = 0; j <= 2; j++) {
                OwnedClouds wind = Check.under("sky 8 8;cloud 3 3 0 0 1;wind 0 1 " + i + " " + j + ";");
                long due = square(1 + i, 1 + j, 3 + i, 3 + j);
                CHECK.is("wind " + i + " " + j, due, () -> wind.doubt(0, 1));
            }
        }
    }

    /** The bits of a square in a SKY of 8 by 8. */
    private static long square(int left, int top, int right, int bottom) {
        long bits = 0;
        for (int y = top; y <= bottom; y++) {
            for (int x = left; x <= right; x++) {
                bits |= 1L << (8 * y + x);
            }
        }
        return bits;
    }

    private static void insideTheSky() {
        CHECK.sentence("or one more or less across, down, or both (inside the SKY)");
        OwnedClouds x = Check.under("sky 8 8;cloud 0 0 0 0 1;cloud 7 0 0 0 1;cloud 0 7 0 0 1;"
            + "cloud 7 7 0 0 1;cloud 3 0 0 0 1;cloud 7 3 0 0 1;");
        CHECK.is("left above", square(0, 0, 1, 1), () -> x.doubt(0, 1));
        CHECK.is("right above", square(6, 0, 7, 1), () -> x.doubt(1, 1));
        CHECK.is("left below", square(0, 6, 1, 7), () -> x.doubt(2, 1));
        CHECK.is("right below", square(6, 6, 7, 7), () -> x.doubt(3, 1));
        CHECK.is("above", square(2, 0, 4, 1), () -> x.doubt(4, 1));
        CHECK.is("right", square(6, 2, 7, 4), () -> x.doubt(5, 1));
        OwnedClouds out = Check.under("sky 8 8;cloud 7 7 0 0 1;cloud 6 6 0 0 1;wind 0 0 2 2;");
        CHECK.is("by the wind out, or one less", 1L << 63, () -> out.doubt(0, 1));
        CHECK.is("and again", 1L << 63, () -> out.doubt(0, 49));
        CHECK.is("a step inside", square(6, 6, 7, 7), () -> out.doubt(1, 1));
        OwnedClouds back = Check.under("sky 3 3;cloud 2 1 0 0 1;wind 0 1 2 1;wind 0 2 0 1;");
        CHECK.is("what is outside never comes back", 1 << 2 | 1 << 5 | 1 << 8, () -> back.doubt(0, 1));
        CHECK.is("what is outside never comes back", 511, () -> back.doubt(0, 2));
    }

    private static void doubtBits() {
        CHECK.sentence("as bits (W times Y, and X)");
        OwnedClouds last = Check.under("sky 8 8;cloud 7 7 0 0 1;cloud 0 0 0 0 1;");
        CHECK.is("the last cell of 8 by 8", Long.MIN_VALUE, () -> last.doubt(0, 0));
        CHECK.is("the first", 1, () -> last.doubt(1, 0));
        CHECK.is("all in HOUR 7", -1, () -> last.doubt(0, 7));
        CHECK.is("not yet all in HOUR 6", square(1, 1, 7, 7), () -> last.doubt(0, 6));
        for (int w = 2; w <= 8; w++) {
            OwnedClouds x = Check.under("sky " + w + " 3;cloud " + (w - 1) + " 1 0 0 1;cloud 0 2 0 0 1;");
            long due = 1L << (2 * w - 1);
            CHECK.is("W " + w, due, () -> x.doubt(0, 0));
            CHECK.is("W " + w + ", the next", 2 * due, () -> x.doubt(1, 0));
        }
        OwnedClouds x = Check.under("cloud 1 1 0 0 1;");
        CHECK.edge("hour", "-1:IAE 0:128 49:1073741823 50:IAE -2147483648:IAE 2147483647:IAE", hour -> (int) x.doubt(0, hour));
        CHECK.edge("cloud", "-1:NSE 0:128 1:NSE -2147483648:NSE 2147483647:NSE", k -> (int) x.doubt(k, 0));
    }

    private static void worstField() {
        CHECK.sentence("the WORST: the FIELD of the most V there, of these the first");
        for (int v = 4; v <= 6; v++) {
            OwnedClouds x = Check.under("cloud 1 1 0 5 1;field 0 0 0 0 5 0;field 2 2 0 0 " + v + " 0;field 4 4 0 0 99 0;");
            CHECK.edge("5 and " + v + ", hour", "4:-1 5:-1 6:" + (v > 5 ? 1 : 0) + " 7:" + (v > 5 ? 1 : 0) + " 8:2",
                hour -> x.worst(0, hour));
        }
        OwnedClouds zero = Check.under("cloud 1 1 0 0 1;field 0 0 0 0 0 0;field 1 1 0 0 0 0;");
        CHECK.edge("worth nothing, hour", "-1:IAE 0:1 1:0 49:0 50:IAE -2147483648:IAE 2147483647:IAE", hour -> zero.worst(0, hour));
        CHECK.edge("cloud", "-1:NSE 0:1 1:NSE -2147483648:NSE 2147483647:NSE", k -> zero.worst(k, 0));
        OwnedClouds none = Check.under("cloud 1 1 0 0 1;field 3 3 0 0 9 9;");
        CHECK.edge("none there, then one, hour", "0:-1 1:-1 2:0 49:0", hour -> none.worst(0, hour));
        OwnedClouds beside = Check.under("sky 8 8;cloud 1 6 0 0 1;field 6 1 0 0 9 0;field 1 1 0 0 9 0;"
            + "field 6 6 0 0 9 0;field 1 6 0 0 8 0;");
        CHECK.edge("its own cell, then those of alike V, hour", "0:3 1:3 4:3 5:0 6:0", hour -> beside.worst(0, hour));
        OwnedClouds empty = Check.under("cloud 1 1 0 0 1;");
        CHECK.edge("no field, hour", "0:-1 49:-1", hour -> empty.worst(0, hour));
    }

    private static void worthOfBits() {
        CHECK.sentence("WORTH of CLOUDS (bits). IllegalArgumentException: bits of none.");
        worth("", "-2147483648:IAE -1:IAE 0:0 1:IAE 2:IAE 2147483647:IAE");
        worth("cloud 0 0 0 0 3;field 0 0 0 99 0 1;", "-2147483648:IAE -1:IAE 0:0 1:3 2:IAE 3:IAE 256:IAE 2147483647:IAE");
        worth("cloud 0 0 0 0 3;cloud 0 0 0 0 5;field 0 0 0 99 0 1;", "-1:IAE 0:0 1:3 2:5 3:8 4:IAE");
        worth("cloud 0 0 0 0 3;".repeat(7) + "field 0 0 0 99 0 1;", "-1:IAE 64:3 127:21 128:IAE");
        worth("cloud 0 0 0 0 3;".repeat(8) + "field 0 0 0 99 0 1;", "-1:IAE 0:0 128:3 254:21 255:24 256:IAE 2147483647:IAE");
    }

    private static void shareWhat() {
        CHECK.sentence("SHARE of a CLOUD: above (what 0), below (1)");
        OwnedClouds x = Check.under("cloud 0 0 0 0 3;cloud 0 0 0 0 3;field 0 0 0 3 0 1;");
        CHECK.edge("what", "-1:IAE 0:3 1:2 2:IAE -2147483648:IAE 2147483647:IAE", what -> (int) x.share(0, what));
        CHECK.edge("cloud", "-1:NSE 0:3 1:3 2:NSE -2147483648:NSE 2147483647:NSE", k -> (int) x.share(k, 0));
        OwnedClouds none = new OwnedClouds();
        CHECK.edge("no cloud at all", "-1:NSE 0:NSE", k -> (int) none.share(k, 0));
    }

    private static void bidOf() {
        CHECK.sentence("IllegalArgumentException: FARMER (0 to 6), how many (1 to 999), price (0 to 99).");
        OwnedClouds x = new OwnedClouds();
        CHECK.edge("farmer", "-1:IAE 0:1 1:2 6:3 7:IAE -2147483648:IAE 2147483647:IAE", f -> x.bid(f, 1, 1));
        x.forget();
        CHECK.edge("many", "-1:IAE 0:IAE 1:1 2:2 998:3 999:4 1000:IAE -2147483648:IAE 2147483647:IAE", many -> x.bid(0, many, 1));
        x.forget();
        CHECK.edge("price", "-1:IAE 0:1 1:2 98:3 99:4 100:IAE -2147483648:IAE 2147483647:IAE", price -> x.bid(0, 1, price));
        CHECK.is("refused ones are none", 4, () -> x.count(1));
    }

    private static void forgetAll() {
        CHECK.sentence("`int forget()`: All BIDS go: how many.");
        for (int many : new int[] {0, 1, 7, 8}) {
            OwnedClouds x = Check.under("cloud 0 0 0 0 1;");
            for (int i = 0; i < many; i++) {
                x.bid(0, 1, 1);
            }
            x.order(0, 0, 0, 1);
            x.gauge(0, 0, 0);
            CHECK.is("all of " + many, many, x::forget);
            CHECK.is("none again", 0, x::forget);
            CHECK.edge("count", "0:1 1:0 2:1", x::count);
            CHECK.is("no such bid", Check.IOOBE, () -> x.gets(1, 0));
            CHECK.is("nobody pays", 0, () -> x.settled(0, 0));
        }
    }

    private static void getsOf() {
        CHECK.sentence("Of so much WATER (0 to 9,999): what the i-th BID gets. IndexOutOfBoundsException: no such BID.");
        OwnedClouds x = bids(new int[] {5, 5}, new int[] {6, 4});
        CHECK.edge("bid", "-1:IOOBE 0:5 1:6 2:IOOBE 8:IOOBE -2147483648:IOOBE 2147483647:IOOBE", i -> x.gets(99, i));
        CHECK.edge("water, second", "-1:IAE 0:0 1:0 5:0 6:1 10:5 11:6 12:6 9998:6 9999:6 10000:IAE -2147483648:IAE 2147483647:IAE",
            water -> x.gets(water, 1));
        CHECK.edge("water, first", "0:0 1:1 4:4 5:5 6:5", water -> x.gets(water, 0));
    }

    private static void settledWhat() {
        CHECK.sentence("The price each pays (what 0), all together (1).");
        OwnedClouds x = bids(new int[] {5, 5}, new int[] {6, 4});
        CHECK.edge("what", "-1:IAE 0:4 1:24 2:IAE -2147483648:IAE 2147483647:IAE", what -> x.settled(6, what));
        CHECK.edge("water", "-1:IAE 0:5 4:5 5:4 10:4 11:0 9999:0 10000:IAE -2147483648:IAE 2147483647:IAE", water -> x.settled(water, 0));
        CHECK.edge("all of water", "-1:IAE 0:0 4:20 5:20 10:40 11:0 9999:0 10000:IAE", water -> x.settled(water, 1));
    }

    private static void droughtOf() {
        CHECK.sentence("DROUGHT: what a FIELD gets of so much WATER (0 to 9,999).");
        OwnedClouds x = Check.under("field 0 0 0 5 0 0;field 1 0 0 5 0 0;");
        CHECK.edge("water", "-1:IAE 0:0 1:1 2:1 3:2 9:5 10:5 9999:5 10000:IAE -2147483648:IAE 2147483647:IAE",
            water -> x.drought(water, 0));
        CHECK.edge("field", "-1:IOOBE 0:2 1:1 2:IOOBE 12:IOOBE -2147483648:IOOBE 2147483647:IOOBE", f -> x.drought(3, f));
        OwnedClouds none = new OwnedClouds();
        CHECK.edge("no field at all", "-1:IOOBE 0:IOOBE", f -> none.drought(3, f));
    }

    private static void gaugeOf() {
        CHECK.sentence("A GAUGE: how many there are; -1: there are 9, or one is there. IllegalArgumentException: no such CELL, so much (0 to 9,999).");
        OwnedClouds x = Check.under("sky 5 3;");
        CHECK.edge("x", "-1:IAE 0:1 1:2 4:3 5:IAE -2147483648:IAE 2147483647:IAE", n -> x.gauge(n, 0, 7));
        CHECK.edge("y", "-1:IAE 0:-1 1:4 2:5 3:IAE -2147483648:IAE 2147483647:IAE", n -> x.gauge(0, n, 7));
        x.away();
        CHECK.edge("fell, always there", "-1:IAE 0:1 1:-1 9998:-1 9999:-1 10000:IAE -2147483648:IAE 2147483647:IAE", n -> x.gauge(4, 2, n));
        x.away();
        CHECK.is("fell 9999", 1, () -> x.gauge(4, 2, 9999));
        CHECK.is("wrong where one is", Check.IAE, () -> x.gauge(4, 2, 10000));
        for (int i = 2; i <= 9; i++) {
            int cell = i - 2;
            CHECK.is("gauge", i, () -> x.gauge(cell % 5, cell / 5, 7));
        }
        CHECK.is("a tenth", -1, () -> x.gauge(3, 2, 7));
        CHECK.is("a tenth where one is", -1, () -> x.gauge(4, 2, 7));
        CHECK.is("wrong when full: the cell", Check.IAE, () -> x.gauge(5, 2, 7));
        CHECK.is("wrong when full: so much", Check.IAE, () -> x.gauge(3, 2, -1));
        CHECK.is("there are 9", 9, () -> x.count(2));
    }

    private static void awayAll() {
        CHECK.sentence("`int away()`: All GAUGES go: how many.");
        for (int many : new int[] {0, 1, 8, 9}) {
            OwnedClouds x = Check.under("cloud 0 0 0 0 1;");
            for (int i = 0; i < many; i++) {
                x.gauge(i % 6, i / 6, 3);
            }
            x.order(0, 0, 0, 1);
            x.bid(1, 1, 1);
            CHECK.is("all of " + many, many, x::away);
            CHECK.is("none again", 0, x::away);
            CHECK.edge("count", "0:1 1:1 2:0", x::count);
            CHECK.is("one way again", 1, () -> x.explain(0));
            CHECK.is("its cell is free", 1, () -> x.gauge(0, 0, 3));
        }
    }

    private static void explainWhat() {
        CHECK.sentence("0 how many ways EXPLAIN them, 1 SURE ones (bits; 0 without a way), 2 the LIAR (NONE: there is a way, or none by one).");
        String text = "cloud 1 1 0 0 5;cloud 1 1 0 0 6;";
        explained("a way", gauged(text, at(1, 1, 6)), "-1:IAE 0:1 1:2 2:-1 3:IAE -2147483648:IAE 2147483647:IAE");
        explained("no way, a liar", gauged(text, at(1, 1, 7)), "-1:IAE 0:0 1:0 2:0 3:IAE");
        explained("no way, none by one", gauged(text, at(1, 1, 7), at(2, 2, 1)), "-1:IAE 0:0 1:0 2:-1 3:IAE");
        OwnedClouds most = Check.under("cloud 0 0 0 0 1;cloud 0 0 0 0 1;cloud 0 0 0 0 1;cloud 0 0 0 0 1;cloud 0 0 0 0 1;cloud 0 0 0 0 1;"
            + "wind 0 1 2 1;wind 0 3 1 2;wind 0 5 0 1;wind 0 7 1 0;wind 0 8 2 1;wind 0 9 1 1;");
        for (int i = 0; i < 6; i++) {
            most.gauge(new int[] {0, 1, 2, 2, 2, 1}[i], new int[] {0, 0, 0, 1, 2, 2}[i], 1);
        }
        explained("each of six by each of six", most, "0:720 1:63 2:-1");
        OwnedClouds none = new OwnedClouds();
        explained("nothing at all", none, "-1:IAE 0:1 1:0 2:-1 3:IAE");
        none.gauge(0, 0, 0);
        explained("no cloud, and none fell", none, "0:1 1:0 2:-1");
        none.gauge(1, 0, 1);
        explained("no cloud, and one fell", none, "0:0 1:0 2:1");
    }

    private static void threeImages() {
        CHECK.sentence("An IMAGE of ORDERS, BIDS, GAUGES: how many there are; -1: there are 3.");
        OwnedClouds x = Check.under("cloud 0 0 0 0 99;");
        for (int i = 1; i <= 3; i++) {
            x.order(0, 0, 0, i);
            CHECK.is("image", i, x::image);
        }
        x.order(0, 0, 0, 9);
        CHECK.is("a fourth", -1, x::image);
        CHECK.is("a fifth", -1, x::image);
        CHECK.is("there are 3", 3, () -> x.count(3));
        CHECK.is("two are left", 2, x::restore);
        CHECK.is("the third's orders", 3, () -> x.count(0));
        CHECK.is("again a third", 3, x::image);
        CHECK.is("a fourth", -1, x::image);
    }

    private static void latestImage() {
        CHECK.sentence("All is as in the latest IMAGE, which is gone: how many are left; -1: there is none.");
        OwnedClouds none = Check.under("cloud 0 0 0 0 99;");
        none.order(0, 0, 0, 1);
        CHECK.is("there is none", -1, none::restore);
        CHECK.is("and nothing is undone", 1, () -> none.count(0));
        OwnedClouds x = Check.under("rate 99;cloud 0 0 0 0 99;");
        x.image();
        x.order(0, 0, 0, 5);
        x.bid(1, 5, 7);
        x.gauge(0, 0, 99);
        x.image();
        for (int i = 0; i < 29; i++) {
            x.order(0, 0, 0, 2);
        }
        for (int i = 0; i < 7; i++) {
            x.bid(1, 5, 70);
        }
        for (int i = 1; i < 9; i++) {
            x.gauge(i % 6, i / 6, 3);
        }
        x.image();
        x.clear();
        x.forget();
        x.away();
        CHECK.is("two are left", 2, x::restore);
        CHECK.edge("count of the full one", "0:30 1:8 2:9 3:2", x::count);
        CHECK.is("what falls", 99 - 5 - 58, () -> x.day(0, 0));
        CHECK.is("the price", 70, () -> x.settled(0, 0));
        CHECK.is("no way", 0, () -> x.explain(0));
        CHECK.is("full: order", -1, () -> x.order(0, 0, 0, 1));
        CHECK.is("one is left", 1, x::restore);
        CHECK.edge("count of the second", "0:1 1:1 2:1 3:1", x::count);
        CHECK.is("what falls", 94, () -> x.day(0, 0));
        CHECK.is("the price", 7, () -> x.settled(0, 0));
        CHECK.is("one way", 1, () -> x.explain(0));
        x.order(0, 0, 0, 1);
        CHECK.is("none is left", 0, x::restore);
        CHECK.edge("count of the first", "0:0 1:0 2:0 3:0", x::count);
        CHECK.is("nothing falls", 99, () -> x.day(0, 0));
        CHECK.is("there is none any more", -1, x::restore);
        CHECK.is("again one", 1, x::image);
    }

    private static void countWhat() {
        CHECK.sentence("0 ORDERS, 1 BIDS, 2 GAUGES, 3 IMAGES, 4 bytes of the TAPE; NONE for others.");
        OwnedClouds x = Check.under("cloud 0 0 0 0 1;");
        x.order(0, 0, 0, 1);
        x.bid(1, 1, 1);
        x.bid(1, 1, 1);
        x.gauge(0, 0, 0);
        x.gauge(1, 0, 0);
        x.gauge(2, 0, 0);
        x.image();
        x.image();
        x.feed(0, 0, 0, 0, 0);
        CHECK.edge("count", "-2147483648:-1 -1:-1 0:1 1:2 2:3 3:2 4:20 5:-1 2147483647:-1", x::count);
    }

    private static void severalWrong() {
        OwnedClouds x = Check.under("cloud 1 1 0 0 9;field 0 0 0 0 0 0;");
        CHECK.sentence("public long share(int cloud, int what) throws NoSuchElementException, IllegalArgumentException;");
        CHECK.is("both wrong", Check.NSE, () -> x.share(1, 2));
        CHECK.sentence("public int gets(int water, int i) throws IndexOutOfBoundsException, IllegalArgumentException;");
        CHECK.is("both wrong", Check.IOOBE, () -> x.gets(10000, 0));
        x.bid(1, 1, 1);
        CHECK.is("both wrong, one bid", Check.IOOBE, () -> x.gets(-1, 1));
        CHECK.is("the water", Check.IAE, () -> x.gets(-1, 0));
        CHECK.sentence("public int drought(int water, int field) throws IndexOutOfBoundsException, IllegalArgumentException;");
        CHECK.is("both wrong", Check.IOOBE, () -> x.drought(10000, 1));
        CHECK.is("the water", Check.IAE, () -> x.drought(10000, 0));
        CHECK.sentence("public long doubt(int cloud, int hour) throws NoSuchElementException, IllegalArgumentException;");
        CHECK.is("both wrong", Check.NSE, () -> x.doubt(1, 50));
        CHECK.is("the hour", Check.IAE, () -> x.doubt(0, 50));
        CHECK.sentence("public int worst(int cloud, int hour) throws NoSuchElementException, IllegalArgumentException;");
        CHECK.is("both wrong", Check.NSE, () -> x.worst(1, 50));
        CHECK.is("the hour", Check.IAE, () -> x.worst(0, 50));
    }

    private static void none() {
        CHECK.sentence("public static final int NONE = -1;");
        CHECK.is("NONE", -1, () -> OwnedClouds.NONE);
    }
}
