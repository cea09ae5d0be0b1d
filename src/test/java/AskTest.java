/** Promises 17 to 31: WORTH, SHARES, BIDS, DROUGHT, GAUGES, DOUBT, IMAGES. */
public final class AskTest {
    private static final Check CHECK = new Check();

    public static void main(String[] args) {
        worth();
        share();
        bids();
        settled();
        drought();
        gauges();
        explain();
        doubt();
        images();
        CHECK.end();
    }

    private static void worth() {
        OwnedClouds x = Check.under("rate 10;hold 1;cloud 0 0 0 0 30;cloud 0 0 0 48 999;wind 0 0 2 1;"
            + "field 0 0 0 15 0 1;field 1 0 0 15 0 5;field 2 0 0 99 0 3;glacier 1 0 49;");
        CHECK.is("17: none", 0, () -> x.worth(0));
        CHECK.is("17: R in each hour, the dearest first", 10 * 5 + 10 * 3 + 10, () -> x.worth(1));
        CHECK.is("17: two hours", 10 + 10 * 5, () -> x.worth(2));
        CHECK.is("17: thirst in all", 15 + 15 * 5 + 10 * 3, () -> x.worth(3));
        CHECK.is("17: bits of none", Check.IAE, () -> x.worth(4));
        CHECK.is("17: bits of none", Check.IAE, () -> x.worth(-1));
        CHECK.is("17: bits of none", Check.IAE, () -> x.worth(Integer.MIN_VALUE));
        OwnedClouds swap = Check.under("rate 99;cloud 0 0 0 0 10;cloud 1 0 0 0 10;wind 0 0 1 1;wind 0 1 2 1;wind 0 2 1 1;"
            + "field 1 0 0 10 0 9;field 0 0 0 10 0 8;field 2 0 0 5 0 7;");
        CHECK.is("17: the dearest", 90, () -> swap.worth(1));
        CHECK.is("17: the dearest", 90, () -> swap.worth(2));
        CHECK.is("17: one serves it, that the other serves the next", 10 * 9 + 10 * 8, () -> swap.worth(3));
        OwnedClouds eight = Check.under("cloud 0 0 0 0 1;".repeat(8) + "field 0 0 0 99 0 9;");
        CHECK.is("17: all eight", 72, () -> eight.worth(255));
        CHECK.is("17: a ninth", Check.IAE, () -> eight.worth(256));
        CHECK.is("18: more than 6", -1, () -> eight.share(0, 0));
        CHECK.is("18: more than 6, wrong", Check.IAE, () -> eight.share(0, 2));
        CHECK.is("18: more than 6, no such", Check.NSE, () -> eight.share(8, 0));
    }

    private static void share() {
        OwnedClouds x = Check.under("rate 99;cloud 0 0 0 0 5;cloud 0 0 0 0 10;cloud 5 4 0 0 9;field 0 0 0 12 0 1;");
        CHECK.is("18: above", 7, () -> x.share(0, 0));
        CHECK.is("18: below", 2, () -> x.share(0, 1));
        CHECK.is("18: above", 17, () -> x.share(1, 0));
        CHECK.is("18: below", 2, () -> x.share(1, 1));
        CHECK.is("18: nothing", 0, () -> x.share(2, 0));
        CHECK.is("18: below nothing", 1, () -> x.share(2, 1));
        CHECK.is("18: another what", Check.IAE, () -> x.share(0, 2));
        CHECK.is("18: another what", Check.IAE, () -> x.share(0, -1));
        CHECK.is("18: no such cloud", Check.NSE, () -> x.share(3, 0));
        CHECK.is("18: no such cloud", Check.NSE, () -> x.share(-1, 7));
        OwnedClouds six = Check.under("cloud 0 0 0 0 2;".repeat(6) + "field 0 0 0 7 0 1;");
        CHECK.is("18: a sixth of 7", 7, () -> six.share(5, 0));
        CHECK.is("18: a sixth of 7", 6, () -> six.share(5, 1));
    }

    private static void bids() {
        OwnedClouds x = new OwnedClouds();
        CHECK.is("19: one", 1, () -> x.bid(0, 1, 0));
        CHECK.is("19: two", 2, () -> x.bid(6, 999, 99));
        CHECK.is("19: no such farmer", Check.IAE, () -> x.bid(7, 1, 0));
        CHECK.is("19: no such farmer", Check.IAE, () -> x.bid(-1, 1, 0));
        CHECK.is("19: for none", Check.IAE, () -> x.bid(0, 0, 0));
        CHECK.is("19: for too many", Check.IAE, () -> x.bid(0, 1000, 0));
        CHECK.is("19: for less than nothing", Check.IAE, () -> x.bid(0, 1, -1));
        CHECK.is("19: for too much", Check.IAE, () -> x.bid(0, 1, 100));
        for (int i = 3; i <= 8; i++) {
            CHECK.is("19: " + i, i, () -> x.bid(1, 2, 3));
        }
        CHECK.is("19: there are 8", -1, () -> x.bid(1, 2, 3));
        CHECK.is("19: wrong when full", Check.IAE, () -> x.bid(1, 2, 100));
        CHECK.is("31: 8", 8, () -> x.count(1));
        CHECK.is("20: all go", 8, x::forget);
        CHECK.is("20: none", 0, x::forget);
        CHECK.is("21: no such bid", Check.IOOBE, () -> x.gets(1, 0));
    }

    private static void settled() {
        OwnedClouds x = new OwnedClouds();
        x.bid(1, 10, 5);
        x.bid(2, 10, 8);
        x.bid(3, 10, 5);
        x.bid(4, 10, 2);
        int[] gets = {10, 10, 5, 0};
        for (int i = 0; i < 4; i++) {
            int asked = i;
            CHECK.is("21: bid " + i, gets[i], () -> x.gets(25, asked));
        }
        CHECK.is("22: of those not served in all the best", 5, () -> x.settled(25, 0));
        CHECK.is("22: all together", 125, () -> x.settled(25, 1));
        CHECK.is("22: just served", 2, () -> x.settled(30, 0));
        CHECK.is("22: all together", 60, () -> x.settled(30, 1));
        CHECK.is("22: all served", 0, () -> x.settled(40, 0));
        CHECK.is("22: no water", 8, () -> x.settled(0, 0));
        CHECK.is("22: nobody pays", 0, () -> x.settled(0, 1));
        CHECK.is("22: 9999", 0, () -> x.settled(9999, 1));
        CHECK.is("21: no such bid", Check.IOOBE, () -> x.gets(10000, 4));
        CHECK.is("21: no such bid", Check.IOOBE, () -> x.gets(1, -1));
        CHECK.is("21: too much water", Check.IAE, () -> x.gets(10000, 0));
        CHECK.is("21: less than none", Check.IAE, () -> x.gets(-1, 0));
        CHECK.is("22: too much water", Check.IAE, () -> x.settled(10000, 0));
        CHECK.is("22: less than none", Check.IAE, () -> x.settled(-1, 0));
        CHECK.is("22: another what", Check.IAE, () -> x.settled(1, 2));
        CHECK.is("22: another what", Check.IAE, () -> x.settled(1, -1));
    }

    private static void drought() {
        OwnedClouds x = Check.under("field 0 0 0 4 0 0;field 1 0 0 0 0 0;field 2 0 0 2 0 0;field 3 0 0 4 0 0;");
        int[][] due = {{0, 0, 0}, {1, 0, 0}, {1, 1, 0}, {1, 1, 1}, {2, 1, 1}, {2, 1, 2}, {3, 1, 2}, {3, 2, 2}};
        // at 7: 3/4, 1/2 and 2/4: the first of the halves is the third FIELD
        for (int water = 0; water < due.length; water++) {
            int all = water;
            CHECK.is("23: first of " + water, due[water][0], () -> x.drought(all, 0));
            CHECK.is("23: thirsts for none", 0, () -> x.drought(all, 1));
            CHECK.is("23: third of " + water, due[water][1], () -> x.drought(all, 2));
            CHECK.is("23: last of " + water, due[water][2], () -> x.drought(all, 3));
        }
        CHECK.is("23: none above its thirst", 4, () -> x.drought(9999, 3));
        CHECK.is("23: too much", Check.IAE, () -> x.drought(10000, 3));
        CHECK.is("23: less than none", Check.IAE, () -> x.drought(-1, 3));
        CHECK.is("23: no such field", Check.IOOBE, () -> x.drought(-1, 4));
        CHECK.is("23: no such field", Check.IOOBE, () -> x.drought(1, -1));
    }

    private static void gauges() {
        OwnedClouds x = Check.under("sky 4 3;");
        CHECK.is("24: one", 1, () -> x.gauge(3, 2, 9999));
        CHECK.is("24: one is there", -1, () -> x.gauge(3, 2, 0));
        CHECK.is("24: outside", Check.IAE, () -> x.gauge(4, 0, 0));
        CHECK.is("24: outside", Check.IAE, () -> x.gauge(0, 3, 0));
        CHECK.is("24: outside", Check.IAE, () -> x.gauge(-1, 0, 0));
        CHECK.is("24: outside", Check.IAE, () -> x.gauge(0, -1, 0));
        CHECK.is("24: too much", Check.IAE, () -> x.gauge(0, 0, 10000));
        CHECK.is("24: less than none", Check.IAE, () -> x.gauge(0, 0, -1));
        CHECK.is("24: wrong where one is", Check.IAE, () -> x.gauge(3, 2, -1));
        for (int i = 2; i <= 9; i++) {
            int at = i - 2;
            CHECK.is("24: " + i, i, () -> x.gauge(at % 4, at / 4, 0));
        }
        CHECK.is("24: there are 9", -1, () -> x.gauge(2, 2, 0));
        CHECK.is("25: all go", 9, x::away);
        CHECK.is("25: none", 0, x::away);
        CHECK.is("25: again one", 1, () -> x.gauge(3, 2, 1));
    }

    private static void explain() {
        OwnedClouds x = Check.under("cloud 0 0 0 0 5;cloud 0 0 1 0 5;cloud 0 0 2 3 10;wind 0 0 2 1;wind 2 0 0 1;");
        CHECK.is("26: without gauges one way", 1, () -> x.explain(0));
        CHECK.is("26: none is sure", 0, () -> x.explain(1));
        x.gauge(0, 0, 10);
        CHECK.is("26: two or the third", 2, () -> x.explain(0));
        CHECK.is("26: none is sure", 0, () -> x.explain(1));
        x.gauge(1, 0, 5);
        CHECK.is("26: the first went on", 1, () -> x.explain(0));
        CHECK.is("26: sure", 5, () -> x.explain(1));
        CHECK.is("26: no liar", -1, () -> x.explain(2));
        x.gauge(0, 1, 3);
        CHECK.is("26: no way", 0, () -> x.explain(0));
        CHECK.is("26: none is sure", 0, () -> x.explain(1));
        CHECK.is("26: the liar", 2, () -> x.explain(2));
        x.gauge(0, 2, 3);
        CHECK.is("26: two lie, none alone", -1, () -> x.explain(2));
        CHECK.is("26: another what", Check.IAE, () -> x.explain(3));
        CHECK.is("26: another what", Check.IAE, () -> x.explain(-1));
        OwnedClouds first = Check.under("cloud 0 0 0 0 5;");
        first.gauge(0, 0, 5);
        first.gauge(5, 0, 0);
        CHECK.is("26: by a gauge, not by hours", 1, () -> first.explain(0));
        OwnedClouds liars = Check.under("cloud 0 0 0 0 5;wind 0 0 2 1;");
        liars.gauge(1, 0, 5);
        liars.gauge(2, 0, 5);
        CHECK.is("26: the first of liars", 0, () -> liars.explain(2));
        OwnedClouds asked = Check.under("cloud 0 0 0 0 5;");
        CHECK.is("26: no gauge lies", -1, () -> asked.explain(2));
        asked.gauge(0, 0, 4);
        CHECK.is("26: the liar asked for alone", 0, () -> asked.explain(2));
        OwnedClouds fits = Check.under("cloud 0 0 0 0 5;");
        fits.gauge(0, 0, 5);
        CHECK.is("26: no liar asked for alone", -1, () -> fits.explain(2));
        OwnedClouds eight = Check.under("cloud 0 0 0 0 1;".repeat(8));
        eight.gauge(0, 0, 6);
        CHECK.is("26: six clouds", 1, () -> eight.explain(0));
        CHECK.is("26: all sure", 63, () -> eight.explain(1));
        eight.away();
        eight.gauge(0, 0, 7);
        CHECK.is("26: no seventh", 0, () -> eight.explain(0));
        eight.away();
        eight.gauge(0, 0, 3);
        CHECK.is("26: three of six", 20, () -> eight.explain(0));
    }

    private static void doubt() {
        OwnedClouds x = Check.under("sky 4 4;cloud 0 0 1 3 5;wind 1 5 2 2;field 2 2 0 0 5 0;field 1 1 0 0 5 0;field 0 1 0 0 4 0;"
            + "cloud 3 3 0 0 1;wind 0 0 2 2;");
        CHECK.is("27: not yet", 0, () -> x.doubt(0, 2));
        CHECK.is("27: where it is seen", 1, () -> x.doubt(0, 3));
        CHECK.is("27: around", 0x33, () -> x.doubt(0, 4));
        CHECK.is("27: by the wind of the hour", 0xffff, () -> x.doubt(0, 5));
        CHECK.is("27: inside the sky", 0x8000, () -> x.doubt(1, 1));
        CHECK.is("28: none there", -1, () -> x.worst(0, 3));
        CHECK.is("28: the most", 1, () -> x.worst(0, 4));
        CHECK.is("28: of these the first", 0, () -> x.worst(0, 5));
        CHECK.is("28: not yet", -1, () -> x.worst(0, 0));
        CHECK.is("27: no such cloud", Check.NSE, () -> x.doubt(2, 50));
        CHECK.is("27: no such hour", Check.IAE, () -> x.doubt(0, 50));
        CHECK.is("27: no such hour", Check.IAE, () -> x.doubt(0, -1));
        CHECK.is("28: no such cloud", Check.NSE, () -> x.worst(-1, 50));
        CHECK.is("28: no such hour", Check.IAE, () -> x.worst(0, 50));
        CHECK.is("28: no such hour", Check.IAE, () -> x.worst(0, -1));
        OwnedClouds whole = Check.under("sky 8 8;cloud 0 0 0 0 1;");
        CHECK.is("27: the whole sky", -1, () -> whole.doubt(0, 7));
        OwnedClouds nothing = Check.under("cloud 1 1 0 0 1;field 1 1 0 0 0 0;");
        CHECK.is("28: worth nothing", 0, () -> nothing.worst(0, 0));
    }

    private static void images() {
        OwnedClouds x = Check.under("cloud 0 0 0 0 9;");
        CHECK.is("30: none", -1, x::restore);
        CHECK.is("29: one", 1, x::image);
        x.order(0, 0, 0, 3);
        x.bid(1, 2, 3);
        x.gauge(0, 0, 9);
        CHECK.is("29: two", 2, x::image);
        x.order(0, 0, 0, 3);
        x.clear();
        x.forget();
        x.away();
        x.bid(1, 1, 1);
        CHECK.is("29: three", 3, x::image);
        CHECK.is("29: there are 3", -1, x::image);
        CHECK.is("31: 3 images", 3, () -> x.count(3));
        x.forget();
        CHECK.is("30: two left", 2, x::restore);
        CHECK.is("30: the latest", 1, () -> x.settled(0, 0));
        CHECK.is("30: the tape is not in it", 20, () -> x.feed(1, 2, 3, 4, 5));
        CHECK.is("30: one left", 1, x::restore);
        CHECK.is("30: orders", 1, () -> x.count(0));
        CHECK.is("30: bids", 1, () -> x.count(1));
        CHECK.is("30: gauges", 1, () -> x.count(2));
        CHECK.is("30: images", 1, () -> x.count(3));
        CHECK.is("30: the tape stays", 20, () -> x.count(4));
        CHECK.is("30: the order is obeyed", 6, () -> x.day(0, 0));
        CHECK.is("30: the bid", 3, () -> x.settled(1, 0));
        CHECK.is("30: the gauge", 1, () -> x.explain(1));
        CHECK.is("29: again", 2, x::image);
        CHECK.is("30: again", 1, x::restore);
        CHECK.is("30: none left", 0, x::restore);
        CHECK.is("30: nothing ordered", 0, () -> x.count(0));
        CHECK.is("30: no more", -1, x::restore);
    }
}
