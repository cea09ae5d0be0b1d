/** Promises 9 to 16: ORDERS, and a DAY gone through. */
public final class DayTest {
    private static final Check CHECK = new Check();

    public static void main(String[] args) {
        orders();
        joinByMinute();
        joinByWater();
        joinTogether();
        joinOfOneLeftEmpty();
        joinOfOneJoinedAndLeftEmpty();
        hold();
        rate();
        salt();
        rainOnFields();
        hail();
        glaciers();
        firstAsked();
        wrongInputs();
        CHECK.end();
    }

    private static void orders() {
        OwnedClouds x = Check.under("cloud 0 0 0 0 50;cloud 1 1 0 5 50;rate 99;");
        CHECK.is("9: one", 1, () -> x.order(0, 0, 0, 999));
        CHECK.is("9: to one that is not there then", 2, () -> x.order(4, 1, 0, 9));
        CHECK.is("9: salt 0", 3, () -> x.order(49, 1, 1, 0));
        CHECK.is("9: salt 8", 4, () -> x.order(49, 1, 1, 8));
        CHECK.is("9: guns", 5, () -> x.order(49, 1, 2, 0));
        CHECK.is("9: fall 0", Check.IAE, () -> x.order(0, 0, 0, 0));
        CHECK.is("9: fall 1000", Check.IAE, () -> x.order(0, 0, 0, 1000));
        CHECK.is("9: salt 9", Check.IAE, () -> x.order(0, 0, 1, 9));
        CHECK.is("9: salt -1", Check.IAE, () -> x.order(0, 0, 1, -1));
        CHECK.is("9: guns 1", Check.IAE, () -> x.order(0, 0, 2, 1));
        CHECK.is("9: another kind", Check.IAE, () -> x.order(0, 0, 3, 0));
        CHECK.is("9: another kind", Check.IAE, () -> x.order(0, 0, -1, 1));
        CHECK.is("9: no such hour", Check.IAE, () -> x.order(50, 0, 0, 1));
        CHECK.is("9: no such hour", Check.IAE, () -> x.order(-1, 0, 0, 1));
        CHECK.is("9: no such cloud, nor hour", Check.NSE, () -> x.order(50, 2, 0, 1));
        CHECK.is("9: no such cloud", Check.NSE, () -> x.order(0, -1, 0, 1));
        CHECK.is("9: what falls", 100 - 50 - 50, () -> x.day(1, 0));
        for (int i = 6; i <= 30; i++) {
            CHECK.is("9: " + i, i, () -> x.order(1, 1, 2, 0));
        }
        CHECK.is("9: there are 30", -1, () -> x.order(1, 1, 2, 0));
        CHECK.is("9: wrong when full", Check.IAE, () -> x.order(1, 1, 2, 1));
        CHECK.is("9: 30 still", 30, () -> x.count(0));
        CHECK.is("10: all go", 30, x::clear);
        CHECK.is("10: none are left", 0, x::clear);
        CHECK.is("10: nothing falls", 100, () -> x.day(1, 0));
        CHECK.is("10: again one", 1, () -> x.order(1, 1, 2, 0));
    }

    private static void joinByMinute() {
        OwnedClouds x = Check.under("cloud 0 0 0 0 5;cloud 0 0 0 0 6;cloud 0 0 0 1 7;cloud 0 0 1 0 8;cloud 0 0 0 2 9;"
            + "seen 1 4 7;seen 2 5 3;seen 4 6 3;");
        CHECK.is("12: nobody's is last", 4, () -> x.cloud(0, 0, 0, 1));
        CHECK.is("12: of both", 11, () -> x.cloud(0, 0, 0, 0));
        CHECK.is("12: the lesser minute", 5, () -> x.cloud(0, 0, 1, 1));
        CHECK.is("13: all is his", 18, () -> x.part(0, 0, 1, 5));
        CHECK.is("12: of alike ones the lesser number", 5, () -> x.cloud(0, 0, 2, 1));
        CHECK.is("12: one that joined is not there", -1, () -> x.cloud(0, 1, 0, 0));
        CHECK.is("12: nor has it an owner", -1, () -> x.cloud(0, 1, 0, 1));
        CHECK.is("12: nor a place", -1, () -> x.cloud(0, 1, 0, 2));
        CHECK.is("13: nor a part", 0, () -> x.part(0, 1, 0, 4));
        CHECK.is("12: another height", 8, () -> x.cloud(0, 3, 49, 0));
        CHECK.is("12: not yet", -1, () -> x.cloud(0, 2, 0, 0));
        CHECK.is("11: joins", 3, () -> x.day(0, 6));
        CHECK.is("11: in the sky", 35, () -> x.day(0, 0));
        OwnedClouds gone = Check.under("sky 3 2;cloud 1 0 0 0 5;cloud 2 0 0 1 6;wind 0 0 2 1;");
        CHECK.is("12: they meet", 11, () -> gone.cloud(0, 0, 1, 0));
        CHECK.is("12: where", 200, () -> gone.cloud(0, 0, 1, 2));
        CHECK.is("12: and are gone", -1, () -> gone.cloud(0, 0, 2, 0));
        CHECK.is("11: gone with all", 11, () -> gone.day(0, 1));
        CHECK.is("6: as first seen", 7, () -> gone.owner(0));
        CHECK.is("7: alone", 200, () -> gone.path(1, 1));
    }

    private static void joinByWater() {
        OwnedClouds x = Check.under("join 1;cloud 0 0 0 0 5;cloud 0 0 0 0 5;cloud 0 0 0 1 10;cloud 0 0 0 2 21;"
            + "seen 0 1 9;seen 1 2 8;seen 2 3 7;");
        CHECK.is("12: alike, the lesser number", 1, () -> x.cloud(0, 0, 0, 1));
        CHECK.is("12: alike with what joined", 1, () -> x.cloud(0, 0, 1, 1));
        CHECK.is("12: more water, nobody's", 7, () -> x.cloud(0, 0, 2, 1));
        CHECK.is("13: nobody's", 41, () -> x.part(0, 0, 2, 7));
        OwnedClouds three = Check.under("join 1;cloud 0 0 0 0 5;cloud 0 0 0 0 6;cloud 0 0 0 0 10;seen 0 1 9;seen 1 2 8;seen 2 3 7;");
        CHECK.is("12: by number, one after the other", 2, () -> three.cloud(0, 0, 0, 1));
        CHECK.is("11: two joins", 2, () -> three.day(0, 6));
    }

    private static void joinTogether() {
        OwnedClouds x = Check.under("join 2;cloud 0 0 0 0 7;cloud 0 0 0 0 7;cloud 0 0 0 0 7;seen 0 6 9;seen 1 2 8;");
        CHECK.is("12: of these the first", 2, () -> x.cloud(0, 0, 0, 1));
        CHECK.is("13: his own", 7, () -> x.part(0, 0, 0, 2));
        CHECK.is("13: his own", 7, () -> x.part(0, 0, 0, 6));
        CHECK.is("13: his own", 7, () -> x.part(0, 0, 0, 7));
        x.order(0, 0, 0, 5);
        // 5 of 21: one of each, then one of the first two
        CHECK.is("13: one by one from the first", 5, () -> x.part(0, 0, 0, 2));
        CHECK.is("13: one by one", 5, () -> x.part(0, 0, 0, 6));
        CHECK.is("13: none of the last", 6, () -> x.part(0, 0, 0, 7));
        CHECK.is("12: then his is most", 7, () -> x.cloud(0, 0, 0, 1));
        x.order(1, 0, 0, 16);
        CHECK.is("12: emptied, it is still there", 0, () -> x.cloud(0, 0, 1, 0));
        CHECK.is("12: of all that have none the first", 0, () -> x.cloud(0, 0, 1, 1));
        CHECK.is("12: where it is", 0, () -> x.cloud(0, 0, 1, 2));
    }

    /** Who saw a CLOUD is its OWNER, also when nothing is left in it. */
    private static void joinOfOneLeftEmpty() {
        OwnedClouds x = Check.under("cloud 0 0 0 0 1;seen 0 3 5;cloud 0 0 0 1 9;seen 1 4 9;field 0 0 2 5 0 2;flood 3;");
        x.order(0, 0, 0, 1);
        x.order(1, 0, 0, 9);
        CHECK.is("12: emptied", 0, () -> x.cloud(0, 0, 0, 0));
        CHECK.is("13: emptied, nothing is his", 0, () -> x.part(0, 0, 0, 3));
        CHECK.is("14: who saw it first is paid", 10, () -> x.account(0, 3, 0));
        CHECK.is("14: and owes", 15, () -> x.account(0, 3, 1));
        CHECK.is("14: who saw it later is not", 0, () -> x.account(0, 4, 0));
        CHECK.is("14: nor who saw none", 0, () -> x.account(0, 0, 0));
        x.clear();
        x.order(0, 0, 0, 1);
        for (int owner = 0; owner < 8; owner++) {
            int asked = owner;
            CHECK.is("13: all is the earlier one's, " + owner, owner == 3 ? 9 : 0, () -> x.part(0, 0, 1, asked));
        }
        CHECK.is("12: its owner", 3, () -> x.cloud(0, 0, 1, 1));
        CHECK.is("11: one joined", 1, () -> x.day(0, 6));
        OwnedClouds alike = Check.under("cloud 0 0 0 0 1;seen 0 3 5;cloud 0 0 0 1 9;seen 1 4 5;");
        alike.order(0, 0, 0, 1);
        CHECK.is("13: of alike ones the lesser number", 9, () -> alike.part(0, 0, 1, 3));
        OwnedClouds later = Check.under("cloud 0 0 0 0 1;seen 0 3 5;cloud 0 0 0 1 9;seen 1 4 4;");
        later.order(0, 0, 0, 1);
        CHECK.is("13: seen later it has none", 9, () -> later.part(0, 0, 1, 4));
        OwnedClouds joins = Check.under("cloud 0 0 0 2 9;seen 0 4 9;cloud 0 0 0 0 1;seen 1 3 5;");
        joins.order(0, 1, 0, 1);
        CHECK.is("13: the empty one joins", 9, () -> joins.part(0, 0, 2, 3));
        OwnedClouds nobodys = Check.under("cloud 0 0 0 0 1;cloud 0 0 0 1 9;");
        nobodys.order(0, 0, 0, 1);
        CHECK.is("13: both are nobody's", 9, () -> nobodys.part(0, 0, 1, 7));
        OwnedClouds first = Check.under("cloud 0 0 0 0 1;cloud 0 0 0 1 9;seen 1 4 999;");
        first.order(0, 0, 0, 1);
        CHECK.is("13: nobody's is last", 9, () -> first.part(0, 0, 1, 4));
        OwnedClouds more = Check.under("join 1;cloud 0 0 0 0 1;seen 0 3 5;cloud 0 0 0 1 9;seen 1 4 9;");
        more.order(0, 0, 0, 1);
        CHECK.is("13: by law 1 the empty one has less", 9, () -> more.part(0, 0, 1, 4));
        OwnedClouds own = Check.under("join 2;cloud 0 0 0 0 1;seen 0 3 5;cloud 0 0 0 1 9;seen 1 4 9;");
        own.order(0, 0, 0, 1);
        CHECK.is("13: by law 2 each has his own", 9, () -> own.part(0, 0, 1, 4));
    }

    /** One that was joined is the other OWNER's then, with his MINUTE, also when nothing is left in it. */
    private static void joinOfOneJoinedAndLeftEmpty() {
        OwnedClouds x = Check.under("cloud 0 0 0 0 1;seen 0 3 5;cloud 0 0 0 1 1;seen 1 4 2;cloud 0 0 0 2 5;seen 2 2 9;"
            + "cloud 0 0 0 3 6;seen 3 1 4;cloud 0 0 0 4 7;seen 4 6 1;");
        x.order(0, 0, 0, 1);
        x.order(1, 0, 0, 1);
        x.order(2, 0, 0, 5);
        CHECK.is("6: as first seen", 3, () -> x.owner(0));
        CHECK.is("12: emptied again", 0, () -> x.cloud(0, 0, 2, 0));
        CHECK.is("13: between the minutes of both", 6, () -> x.part(0, 0, 3, 4));
        CHECK.is("13: an earlier one has all", 13, () -> x.part(0, 0, 4, 6));
        x.clear();
        x.order(0, 0, 0, 1);
        x.order(1, 0, 0, 1);
        CHECK.is("13: all is the second one's", 5, () -> x.part(0, 0, 2, 4));
        CHECK.is("13: nothing is the first one's", 0, () -> x.part(0, 0, 2, 3));
        CHECK.is("13: nor his who saw none", 0, () -> x.part(0, 0, 2, 0));
        CHECK.is("13: nor the third one's", 0, () -> x.part(0, 0, 2, 2));
        // a day gone through leaves no owner behind for the next one
        x.clear();
        x.order(0, 0, 0, 1);
        CHECK.is("13: another day, the first's water is out", 1, () -> x.part(0, 0, 1, 4));
        CHECK.is("13: as in a day before", 0, () -> x.part(0, 0, 0, 4));
    }

    private static void hold() {
        OwnedClouds x = Check.under("hold 30;cloud 1 0 0 1 40;field 1 0 3 99 0 2;cloud 1 0 0 2 5;");
        CHECK.is("12: what is above falls when it comes", 30, () -> x.cloud(0, 0, 1, 0));
        CHECK.is("12: and when one joins", 30, () -> x.cloud(0, 0, 2, 0));
        CHECK.is("11: taken", 15, () -> x.day(0, 2));
        x.order(1, 0, 2, 0);
        CHECK.is("12: guns keep it", 40, () -> x.cloud(0, 0, 1, 0));
        CHECK.is("12: in this hour alone", 30, () -> x.cloud(0, 0, 2, 0));
        x.order(2, 1, 2, 0);
        CHECK.is("12: guns to one that joined are nothing", 30, () -> x.cloud(0, 0, 2, 0));
        x.clear();
        x.order(1, 0, 0, 25);
        CHECK.is("12: what falls by itself is not ordered", 10, () -> x.cloud(0, 0, 1, 0));
    }

    private static void rate() {
        OwnedClouds x = Check.under("rate 12;cloud 1 0 0 0 40;cloud 2 0 0 0 40;");
        x.order(3, 0, 0, 7);
        x.order(3, 0, 0, 7);
        x.order(3, 1, 0, 13);
        x.order(3, 0, 1, 8);
        CHECK.is("12: together no more than R", 28, () -> x.cloud(0, 0, 3, 0));
        CHECK.is("12: of each cloud", 28, () -> x.cloud(0, 1, 3, 0));
        x.order(4, 0, 0, 12);
        x.order(5, 0, 0, 12);
        x.order(6, 0, 0, 12);
        x.order(7, 0, 0, 12);
        CHECK.is("12: in each hour", 16, () -> x.cloud(0, 0, 4, 0));
        CHECK.is("12: no more than it has", 0, () -> x.cloud(0, 0, 6, 0));
        CHECK.is("11: waste", 52, () -> x.day(0, 4));
    }

    private static void salt() {
        for (int seed : new int[] {0, 1, 77, -5, Integer.MAX_VALUE, Integer.MIN_VALUE}) {
            OwnedClouds x = Check.under("rate 3;cloud 1 0 0 2 999;");
            x.order(1, 0, 1, 8);
            int state = seed;
            int water = 999;
            for (int hour = 2; hour < 25; hour++) {
                int c = hour % 9;
                x.order(hour, 0, 1, c);
                state = state * 1103515245 + 12345;
                int draw = (state >> 16) & 7;
                water -= draw < c ? 3 : 0;
                int due = water;
                int asked = hour;
                CHECK.is("12: salt, seed " + seed + ", hour " + hour, due, () -> x.cloud(seed, 0, asked, 0));
            }
            int due = 999 - water;
            CHECK.is("11: salt, seed " + seed, due, () -> x.day(seed, 4));
        }
        OwnedClouds all = Check.under("rate 5;cloud 1 0 0 0 999;");
        all.order(0, 0, 0, 5);
        all.order(0, 0, 1, 8);
        all.order(1, 0, 1, 3);
        // seed 0: draws 0 (of 12345), then 1251789718 by 65536: 19100, 4 of 8
        CHECK.is("12: a draw is taken though no more can fall", 994, () -> all.cloud(0, 0, 1, 0));
    }

    private static void rainOnFields() {
        OwnedClouds x = Check.under("join 2;rate 99;flood 3;hail 99;cloud 1 0 0 0 20;cloud 1 0 0 0 30;seen 1 4 1;"
            + "cloud 1 0 1 0 10;seen 2 2 1;field 1 0 5 45 9 2;");
        x.order(0, 0, 0, 50);
        x.order(0, 2, 0, 10);
        CHECK.is("11: taken", 45, () -> x.day(9, 2));
        CHECK.is("11: flood", 15, () -> x.day(9, 3));
        CHECK.is("14: the first takes all", 20, () -> x.account(9, 2, 0));
        CHECK.is("14: then the next", 60, () -> x.account(9, 4, 0));
        CHECK.is("14: nobody has the rest", 10, () -> x.account(9, 7, 0));
        CHECK.is("14: no flood of his", 0, () -> x.account(9, 4, 1));
        CHECK.is("14: the flood is nobody's", 45, () -> x.account(9, 7, 1));
        CHECK.is("14: no hail", 0, () -> x.account(9, 4, 2));
        CHECK.is("15: pays", 90, () -> x.farmer(9, 5, 0));
        CHECK.is("15: is owed", 45, () -> x.farmer(9, 5, 1));
        CHECK.is("15: another one", 0, () -> x.farmer(9, 4, 0));
        CHECK.is("16: thirst yet", 0, () -> x.after(9, 0, 0));
        CHECK.is("16: flood on it", 15, () -> x.after(9, 0, 1));
        CHECK.is("16: no hail", -1, () -> x.after(9, 0, 2));
    }

    private static void hail() {
        OwnedClouds x = Check.under("join 2;rate 99;hail 10;cloud 1 0 0 0 400;cloud 1 0 0 0 400;seen 0 3 1;seen 1 2 1;"
            + "field 1 0 5 99 70 1;field 2 0 5 99 30 1;cloud 2 0 2 0 99;seen 2 6 0;");
        x.order(3, 0, 0, 10);
        CHECK.is("11: as much as H is no hail", 0, () -> x.day(1, 7));
        x.order(4, 0, 0, 12);
        x.order(5, 0, 0, 99);
        CHECK.is("11: once in a day", 1, () -> x.day(1, 7));
        CHECK.is("16: the hour", 4, () -> x.after(1, 0, 2));
        CHECK.is("14: of alike owners the first", 70, () -> x.account(1, 2, 2));
        CHECK.is("14: the other owes nothing", 0, () -> x.account(1, 3, 2));
        x.order(9, 2, 0, 11);
        CHECK.is("11: once for each field", 2, () -> x.day(1, 7));
        CHECK.is("16: the other's hour", 9, () -> x.after(1, 1, 2));
        CHECK.is("15: owed for both, and flood", 70 + 30 + 22, () -> x.farmer(1, 5, 1));
        OwnedClouds two = Check.under("hail 10;cloud 1 0 0 0 6;cloud 1 0 1 0 5;field 1 0 0 0 0 0;");
        two.order(0, 0, 0, 6);
        two.order(0, 1, 0, 5);
        CHECK.is("16: all that fell on the cell counts", 0, () -> two.after(1, 0, 2));
        CHECK.is("11: a harvest worth nothing counts", 1, () -> two.day(1, 7));
    }

    private static void glaciers() {
        OwnedClouds x = Check.under("sky 3 4;rate 99;hail 1;cloud 1 1 0 0 100;seen 0 2 1;glacier 1 1 5;glacier 1 2 7;"
            + "field 1 1 0 10 40 1;field 1 2 1 20 40 2;field 1 3 2 30 40 3;");
        x.order(4, 0, 0, 60);
        CHECK.is("11: kept by both, then on the last", 30, () -> x.day(1, 2));
        CHECK.is("14: paid by the last", 90, () -> x.account(1, 2, 0));
        CHECK.is("16: flood there", 30, () -> x.after(1, 2, 1));
        CHECK.is("11: without hail", 0, () -> x.day(1, 7));
        CHECK.is("11: nothing is kept", 0, () -> x.day(1, 5));
        x.order(5, 0, 0, 15);
        CHECK.is("16: in its hour as on ground", 0, () -> x.after(1, 0, 0));
        CHECK.is("16: with hail", 5, () -> x.after(1, 0, 2));
        CHECK.is("16: flood", 5, () -> x.after(1, 0, 1));
        CHECK.is("16: the next one is still under its glacier", 20, () -> x.after(1, 1, 0));
        OwnedClouds bare = Check.under("sky 3 4;cloud 1 1 0 0 100;glacier 1 1 49;");
        bare.order(48, 0, 0, 20);
        bare.order(49, 0, 0, 10);
        CHECK.is("11: waste below and on it", 30, () -> bare.day(1, 4));
        OwnedClouds order = Check.under("sky 2 3;rate 99;cloud 0 0 0 0 9;cloud 0 1 0 0 9;seen 0 1 1;seen 1 6 1;"
            + "glacier 0 0 3;field 0 1 0 12 0 1;");
        order.order(0, 0, 0, 9);
        order.order(3, 1, 0, 9);
        CHECK.is("14: what melts comes behind all", 9, () -> order.account(1, 6, 0));
        CHECK.is("14: and gets the rest", 3, () -> order.account(1, 1, 0));
        CHECK.is("14: and is flood", 6, () -> order.account(1, 1, 1));
    }

    /** Each call goes through the DAY itself, whatever was asked ahead of it. */
    private static void firstAsked() {
        String text = "cloud 0 0 0 0 9;field 0 0 3 4 0 2;";
        OwnedClouds[] x = new OwnedClouds[6];
        for (int i = 0; i < 6; i++) {
            x[i] = Check.under(text);
            x[i].order(7, 0, 0, 6);
        }
        CHECK.is("11: first asked", 2, () -> x[0].day(0, 3));
        CHECK.is("12: first asked", 3, () -> x[1].cloud(0, 0, 7, 0));
        CHECK.is("13: first asked", 3, () -> x[2].part(0, 0, 7, 7));
        CHECK.is("14: first asked", 8, () -> x[3].account(0, 7, 0));
        CHECK.is("15: first asked", 2, () -> x[4].farmer(0, 3, 1));
        CHECK.is("16: first asked", 2, () -> x[5].after(0, 0, 1));
        CHECK.is("12: before", 9, () -> x[5].cloud(0, 0, 6, 0));
        CHECK.is("16: behind that", 2, () -> x[5].after(0, 0, 1));
        CHECK.is("12: before", 9, () -> x[4].cloud(0, 0, 6, 0));
        CHECK.is("15: behind that", 8, () -> x[4].farmer(0, 3, 0));
        CHECK.is("12: before", 9, () -> x[3].cloud(0, 0, 6, 0));
        CHECK.is("14: behind that", 2, () -> x[3].account(0, 7, 1));
        OwnedClouds ice = Check.under("cloud 0 0 0 0 9;glacier 0 0 20;");
        ice.order(7, 0, 0, 6);
        CHECK.is("12: while a glacier keeps", 3, () -> ice.cloud(0, 0, 10, 0));
        CHECK.is("11: it starts with nothing again", 6, () -> ice.day(0, 4));
    }

    private static void wrongInputs() {
        OwnedClouds x = Check.under("cloud 0 0 0 0 5;field 0 0 0 0 0 0;");
        CHECK.is("11: another what", Check.IAE, () -> x.day(1, 8));
        CHECK.is("11: another what", Check.IAE, () -> x.day(1, -1));
        CHECK.is("12: no such cloud", Check.NSE, () -> x.cloud(1, 1, 0, 0));
        CHECK.is("12: no such cloud, nor hour", Check.NSE, () -> x.cloud(1, -1, 50, 3));
        CHECK.is("12: no such hour", Check.IAE, () -> x.cloud(1, 0, 50, 0));
        CHECK.is("12: no such hour", Check.IAE, () -> x.cloud(1, 0, -1, 0));
        CHECK.is("12: another what", Check.IAE, () -> x.cloud(1, 0, 0, 3));
        CHECK.is("12: another what", Check.IAE, () -> x.cloud(1, 0, 0, -1));
        CHECK.is("13: no such cloud", Check.NSE, () -> x.part(1, 1, 50, 8));
        CHECK.is("13: no such hour", Check.IAE, () -> x.part(1, 0, 50, 0));
        CHECK.is("13: no such hour", Check.IAE, () -> x.part(1, 0, -1, 0));
        CHECK.is("13: no such owner", Check.IAE, () -> x.part(1, 0, 0, 8));
        CHECK.is("13: no such owner", Check.IAE, () -> x.part(1, 0, 0, -1));
        CHECK.is("13: nobody", 5, () -> x.part(1, 0, 0, 7));
        CHECK.is("14: no such owner", Check.IAE, () -> x.account(1, 8, 0));
        CHECK.is("14: no such owner", Check.IAE, () -> x.account(1, -1, 0));
        CHECK.is("14: another what", Check.IAE, () -> x.account(1, 0, 3));
        CHECK.is("14: another what", Check.IAE, () -> x.account(1, 0, -1));
        CHECK.is("15: no such farmer", Check.IAE, () -> x.farmer(1, 7, 0));
        CHECK.is("15: no such farmer", Check.IAE, () -> x.farmer(1, -1, 0));
        CHECK.is("15: another what", Check.IAE, () -> x.farmer(1, 0, 2));
        CHECK.is("15: another what", Check.IAE, () -> x.farmer(1, 0, -1));
        CHECK.is("16: no such field", Check.IOOBE, () -> x.after(1, 1, 0));
        CHECK.is("16: no such field", Check.IOOBE, () -> x.after(1, -1, 3));
        CHECK.is("16: another what", Check.IAE, () -> x.after(1, 0, 3));
        CHECK.is("16: another what", Check.IAE, () -> x.after(1, 0, -1));
    }
}
