/** The edges that the document names in part 2 of its terms and in promises 9 to 16: at each, and a step beside it. */
public final class DayEdgeTest {
    private static final Check CHECK = new Check();
    private static final int FALL = 0;
    private static final int SALT = 1;
    private static final int GUNS = 2;

    public static void main(String[] args) {
        ownerOfACloud();
        hoursOfADay();
        goByTheWind();
        leaves();
        cloudsCome();
        joinsBesideIt();
        joinsTheFirst();
        lawOfTheMinute();
        lawOfTheWater();
        lawOfEach();
        ownerThen();
        minuteThen();
        aboveTheHold();
        gunsOfThisHour();
        ordersInTheirOrder();
        fall();
        salt();
        noMoreThanTheRate();
        noMoreThanItHas();
        ofSeveralCut();
        restOneByOne();
        glacierTill();
        fieldTakes();
        ownersOneAfterTheOther();
        floodOwed();
        hailAbove();
        hailOfTheMost();
        hailOnce();
        waste();
        meltsBelow();
        meltsWithoutHail();
        meltsBehindAllThis();
        draws();
        waterAddsUp();
        orderOf();
        thirtyOrders();
        notThere();
        clearAll();
        dayWhat();
        cloudAtTheEnd();
        cloudNotThere();
        partOf();
        accountOf();
        farmerOf();
        afterOf();
        severalWrong();
        CHECK.end();
    }

    private static void water(String name, OwnedClouds x, int cloud, String dues) {
        CHECK.edge(name + ", water in hour", dues, hour -> x.cloud(0, cloud, hour, 0));
    }

    private static void parts(String name, OwnedClouds x, int cloud, int hour, String dues) {
        CHECK.edge(name + ", part of", dues, owner -> x.part(0, cloud, hour, owner));
    }

    private static void day(String name, OwnedClouds x, String dues) {
        CHECK.edge(name + ", day", dues, what -> x.day(0, what));
    }

    /** A text, and the first CLOUD lets fall n in an HOUR. */
    private static OwnedClouds falls(String text, int hour, int n) {
        OwnedClouds x = Check.under(text);
        x.order(hour, 0, FALL, n);
        return x;
    }

    private static void ownerOfACloud() {
        CHECK.sentence("OWNER of a CLOUD: who saw it at the least MINUTE, of these the first told; nobody's (7) without.");
        String[] seen = {"", "seen 0 0 0;", "seen 0 6 999;", "seen 0 5 9;seen 0 1 9;", "seen 0 1 9;seen 0 5 9;", "seen 0 5 9;seen 0 1 8;",
            "seen 0 5 9;seen 0 1 10;", "seen 0 4 9;seen 0 5 8;seen 0 6 8;seen 0 0 9;", "seen 0 4 0;seen 0 3 0;", "seen 0 4 1;seen 0 3 0;"};
        int[] due = {7, 0, 6, 5, 1, 1, 5, 5, 4, 3};
        for (int i = 0; i < due.length; i++) {
            OwnedClouds x = Check.under("cloud 0 0 0 0 5;" + seen[i]);
            int whose = due[i];
            CHECK.is(seen[i], whose, () -> x.owner(0));
            CHECK.is(seen[i] + " as it comes", whose, () -> x.cloud(0, 0, 0, 1));
            CHECK.is(seen[i] + " his part", 5, () -> x.part(0, 0, 0, whose));
        }
    }

    private static void hoursOfADay() {
        CHECK.sentence("A DAY goes by HOURS 0 to 49; in each");
        OwnedClouds x = Check.under("cloud 0 0 0 0 9;cloud 1 1 0 49 5;cloud 5 1 1 48 3;cloud 5 2 2 48 3;wind 1 49 2 1;");
        x.order(0, 0, FALL, 1);
        x.order(49, 0, FALL, 2);
        x.order(49, 1, FALL, 4);
        water("from the first to the last", x, 0, "-1:IAE 0:8 1:8 48:8 49:6 50:IAE");
        water("comes in the last", x, 1, "47:-1 48:-1 49:1");
        water("leaves in the last", x, 2, "47:-1 48:3 49:-1");
        water("stays in the last", x, 3, "47:-1 48:3 49:3");
        day("all hours", x, "0:10 1:3 4:7");
    }

    private static void goByTheWind() {
        CHECK.sentence("CLOUDS that came before go by the wind of their HEIGHT (of the latest T up to now)");
        OwnedClouds x = Check.under("sky 8 8;cloud 3 3 0 2 9;wind 0 2 2 1;wind 0 4 1 2;wind 0 6 1 1;wind 1 3 0 0;");
        CHECK.edge("where in hour", "1:-1 2:303 3:403 4:404 5:405 6:405 7:405 49:405", hour -> x.cloud(0, 0, hour, 2));
        OwnedClouds told = Check.under("sky 8 8;cloud 3 3 0 2 9;wind 0 4 1 2;wind 0 3 2 1;");
        CHECK.edge("by T, not as told: where in hour", "2:303 3:403 4:404 5:405", hour -> told.cloud(0, 0, hour, 2));
        OwnedClouds now = Check.under("cloud 1 1 0 4 9;wind 0 5 2 1;wind 0 6 1 1;");
        CHECK.edge("up to now: where in hour", "4:101 5:201 6:201", hour -> now.cloud(0, 0, hour, 2));
    }

    private static void leaves() {
        CHECK.sentence("who leaves the SKY is GONE with its WATER");
        String[] starts = {"2 1", "0 1", "1 0", "1 2", "2 2"};
        String[] winds = {"2 1", "0 1", "1 0", "1 2", "2 2"};
        for (int i = 0; i < starts.length; i++) {
            OwnedClouds x = Check.under("sky 3 3;cloud " + starts[i] + " 0 0 9;wind 0 48 " + winds[i] + ";");
            water("at the edge", x, 0, "0:9 47:9 48:-1 49:-1");
            day("at the edge", x, "0:0 1:9 4:0");
            OwnedClouds inside = Check.under("sky 3 3;cloud 1 1 0 0 9;wind 0 49 " + winds[i] + ";");
            water("a step inside", inside, 0, "0:9 48:9 49:9");
            day("a step inside", inside, "0:9 1:0 4:0");
            OwnedClouds before = Check.under("sky 3 3;cloud 1 1 0 0 9;wind 0 48 " + winds[i] + ";");
            water("two hours of wind", before, 0, "48:9 49:-1");
            day("two hours of wind", before, "0:0 1:9 4:0");
        }
        OwnedClouds both = Check.under("sky 3 3;cloud 2 2 0 0 9;cloud 2 2 0 0 8;wind 0 1 2 1;");
        both.order(0, 0, FALL, 3);
        day("with what joined, less what fell", both, "0:0 1:14 4:3 6:1");
    }

    private static void cloudsCome() {
        CHECK.sentence("(b) CLOUDS of this HOUR come");
        OwnedClouds meets = Check.under("cloud 1 1 0 0 9;cloud 2 1 0 1 5;wind 0 0 2 1;");
        water("behind those that went", meets, 0, "0:9 1:14 2:14");
        OwnedClouds left = Check.under("cloud 1 1 0 0 9;cloud 1 1 0 1 5;wind 0 0 2 1;");
        water("where one has left", left, 0, "0:9 1:9 2:9");
        water("it comes alone", left, 1, "0:-1 1:5 2:5");
        OwnedClouds out = Check.under("sky 2 2;cloud 1 1 0 0 9;cloud 1 1 0 1 5;wind 0 0 2 1;");
        day("in the hour when one leaves", out, "0:0 1:14 6:0");
    }

    private static void joinsBesideIt() {
        CHECK.sentence("(c) Each CLOUD by number JOINS the first one of a lesser number in its CELL at its HEIGHT, which has the WATER of both");
        for (int x = 0; x <= 2; x++) {
            for (int y = 0; y <= 2; y++) {
                for (int z = 0; z <= 2; z++) {
                    boolean joins = x == 1 && y == 1 && z == 1;
                    OwnedClouds two = Check.under("cloud 1 1 1 0 4;cloud " + x + " " + y + " " + z + " 0 5;");
                    String name = "the second at " + x + " " + y + " " + z;
                    CHECK.is(name + ", joins", joins ? 1 : 0, () -> two.day(0, 6));
                    CHECK.is(name + ", first", joins ? 9 : 4, () -> two.cloud(0, 0, 0, 0));
                    CHECK.is(name + ", second", joins ? -1 : 5, () -> two.cloud(0, 1, 0, 0));
                }
            }
        }
        OwnedClouds later = Check.under("cloud 1 1 0 1 4;cloud 1 1 0 0 5;");
        water("the lesser number comes later", later, 0, "0:-1 1:9 2:9");
        water("the other joins it", later, 1, "0:5 1:-1 2:-1");
    }

    private static void joinsTheFirst() {
        CHECK.sentence("Each CLOUD by number JOINS the first one of a lesser number");
        OwnedClouds x = Check.under("cloud 1 1 1 0 1;cloud 2 2 0 0 2;cloud 2 2 0 0 4;cloud 1 1 1 0 8;cloud 2 2 0 0 16;");
        CHECK.edge("water of", "0:9 1:22 2:-1 3:-1 4:-1", k -> x.cloud(0, k, 0, 0));
        CHECK.is("three joined", 3, () -> x.day(0, 6));
        OwnedClouds all = Check.under("cloud 0 0 0 0 1;".repeat(8));
        CHECK.edge("of eight, water of", "0:8 1:-1 2:-1 7:-1", k -> all.cloud(0, k, 0, 0));
        CHECK.is("seven joined", 7, () -> all.day(0, 6));
        CHECK.is("one alone joins none", 0, () -> Check.under("cloud 0 0 0 0 1;").day(0, 6));
    }

    /** Whose all is, of two that join; told as the law, and who saw them. */
    private static void whose(String text, int due) {
        OwnedClouds x = Check.under("cloud 0 0 0 0 5;cloud 0 0 0 0 5;" + text);
        CHECK.is(text + " owner", due, () -> x.cloud(0, 0, 0, 1));
        for (int owner = 0; owner <= 7; owner++) {
            int asked = owner;
            CHECK.is(text + " part of " + owner, owner == due ? 10 : 0, () -> x.part(0, 0, 0, asked));
        }
    }

    private static void lawOfTheMinute() {
        CHECK.sentence("0: all is the OWNER's of the one whose OWNER saw it at the lesser MINUTE (nobody's last; of alike ones the lesser number)");
        whose("seen 0 5 8;seen 1 2 7;", 2);
        whose("seen 0 5 8;seen 1 2 8;", 5);
        whose("seen 0 5 8;seen 1 2 9;", 5);
        whose("seen 0 2 8;seen 1 5 8;", 2);
        whose("seen 0 5 0;seen 1 2 0;", 5);
        whose("seen 0 5 1;seen 1 2 0;", 2);
        whose("seen 0 0 1;seen 1 6 0;", 6);
        whose("seen 0 0 1;seen 1 6 1;", 0);
        whose("seen 1 0 999;", 0);
        whose("seen 0 5 999;seen 1 2 998;", 2);
        whose("seen 0 5 999;seen 1 2 999;", 5);
        whose("seen 1 2 999;", 2);
        whose("seen 0 5 999;", 5);
        whose("", 7);
        whose("join 1;join 0;seen 0 5 8;seen 1 2 7;", 2);
        OwnedClouds less = Check.under("cloud 0 0 0 0 999;cloud 0 0 0 0 1;seen 0 1 5;seen 1 2 4;");
        parts("by the minute, whatever the water (1 falls above C)", less, 0, 0, "1:0 2:999 7:0");
    }

    private static void lawOfTheWater() {
        CHECK.sentence("1: of the one with more WATER (alike: the lesser number; before it joins)");
        for (int q = 4; q <= 6; q++) {
            OwnedClouds x = Check.under("join 1;cloud 0 0 0 0 5;cloud 0 0 0 0 " + q + ";seen 0 3 9;seen 1 2 1;");
            parts("5 and " + q, x, 0, 0, q > 5 ? "2:11 3:0" : "2:0 3:" + (5 + q));
        }
        for (int q = 10; q <= 12; q++) {
            OwnedClouds x = Check.under("join 1;cloud 0 0 0 0 5;cloud 0 0 0 0 6;cloud 0 0 0 0 " + q + ";seen 0 1 1;seen 1 2 1;seen 2 3 1;");
            parts("5, 6 and " + q, x, 0, 0, q > 11 ? "1:0 2:0 3:23" : "1:0 2:" + (11 + q) + " 3:0");
        }
        for (int fell = 0; fell <= 2; fell++) {
            OwnedClouds x = Check.under("join 1;cloud 0 0 0 0 7;cloud 0 0 0 1 6;seen 0 1 1;");
            if (fell > 0) {
                x.order(0, 0, FALL, fell);
            }
            parts("7 less " + fell + ", and 6", x, 0, 1, fell > 1 ? "1:0 7:11" : "7:0 1:" + (13 - fell));
        }
        for (int hold = 5; hold <= 7; hold++) {
            OwnedClouds x = Check.under("join 1;hold " + hold + ";cloud 0 0 0 0 9;cloud 0 0 0 1 6;seen 0 1 1;");
            parts("held to " + hold + ", and 6", x, 0, 1, hold < 6 ? "1:0 7:" + hold : "7:0 1:" + hold);
        }
    }

    private static void lawOfEach() {
        CHECK.sentence("2: each OWNER has his own");
        OwnedClouds x = Check.under("join 2;cloud 0 0 0 0 5;cloud 0 0 0 0 6;cloud 0 0 0 0 7;"
            + "cloud 0 0 0 0 8;seen 0 0 5;seen 1 6 4;seen 2 0 9;");
        parts("four", x, 0, 0, "0:12 1:0 5:0 6:6 7:8");
        CHECK.is("his who has most", 0, () -> x.cloud(0, 0, 0, 1));
        for (int q = 4; q <= 6; q++) {
            OwnedClouds two = Check.under("join 2;cloud 0 0 0 0 5;cloud 0 0 0 0 " + q + ";seen 0 3 9;seen 1 2 10;");
            int due = q < 5 ? 3 : 2;
            CHECK.is("of 5 and " + q + ", of alike ones the first", due, () -> two.cloud(0, 0, 0, 1));
        }
    }

    private static void ownerThen() {
        CHECK.sentence("whose most is in it, of these the first, is its OWNER then");
        OwnedClouds x = Check.under("cloud 0 0 0 0 5;seen 0 3 9;cloud 0 0 0 0 5;seen 1 2 8;cloud 0 0 0 1 5;seen 2 1 10;");
        parts("the second one's", x, 0, 0, "2:10 3:0");
        parts("and his still", x, 0, 1, "1:0 2:15 3:0");
        CHECK.is("as it is first seen", 3, () -> x.owner(0));
    }

    private static void minuteThen() {
        CHECK.sentence("with his MINUTE of the CLOUD that counted");
        for (int minute = 7; minute <= 9; minute++) {
            OwnedClouds x = Check.under("cloud 0 0 0 0 5;seen 0 3 9;cloud 0 0 0 0 5;seen 1 2 8;cloud 0 0 0 1 5;seen 2 1 " + minute + ";");
            parts("the third at " + minute, x, 0, 1, minute < 8 ? "1:15 2:0" : "1:0 2:15");
            OwnedClouds first = Check.under("cloud 0 0 0 0 5;seen 0 3 8;cloud 0 0 0 0 5;seen 1 2 9;"
                + "cloud 0 0 0 1 5;seen 2 1 " + minute + ";");
            parts("the third at " + minute + ", the first counted", first, 0, 1, minute < 8 ? "1:15 3:0" : "1:0 3:15");
        }
        // the same OWNER saw both: the MINUTE of the one that counted, by law 1 the later
        OwnedClouds same = Check.under("cloud 0 0 0 0 5;seen 0 3 9;cloud 0 0 0 0 5;seen 1 3 8;cloud 0 0 0 1 5;seen 2 1 8;");
        parts("one owner of both", same, 0, 1, "1:0 3:15");
        OwnedClouds empty = Check.under("cloud 0 0 0 0 1;seen 0 3 5;cloud 0 0 0 1 9;seen 1 4 6;");
        empty.order(0, 0, FALL, 1);
        parts("also when nothing is left in it", empty, 0, 1, "0:0 3:9 4:0");
    }

    private static void aboveTheHold() {
        CHECK.sentence("(d) What it has above C falls");
        for (int q = 29; q <= 31; q++) {
            OwnedClouds x = Check.under("hold 30;cloud 1 0 0 0 " + q + ";");
            water("30 of " + q, x, 0, q > 30 ? "0:30 49:30" : "0:" + q + " 49:" + q);
            day("30 of " + q, x, q > 30 ? "0:30 4:1" : "4:0 0:" + q);
        }
        OwnedClouds one = Check.under("hold 1;cloud 1 0 0 0 999;");
        day("holds 1", one, "0:1 4:998");
        OwnedClouds most = Check.under("hold 999;cloud 1 0 0 0 999;");
        day("holds 999", most, "0:999 4:0");
        OwnedClouds joined = Check.under("hold 999;cloud 1 0 0 0 999;cloud 1 0 0 3 1;");
        water("joined", joined, 0, "2:999 3:999");
        day("joined", joined, "0:999 4:1");
        for (int q = 14; q <= 16; q++) {
            OwnedClouds x = Check.under("hold 30;cloud 1 0 0 0 15;cloud 1 0 0 2 " + q + ";");
            day("joined, 15 and " + q, x, q > 15 ? "0:30 4:1" : "4:0 0:" + (15 + q));
        }
    }

    private static void gunsOfThisHour() {
        CHECK.sentence("unless guns keep it in this HOUR");
        for (int hour = 4; hour <= 6; hour++) {
            OwnedClouds x = Check.under("hold 30;cloud 1 0 0 5 40;");
            x.order(hour, 0, GUNS, 0);
            water("guns in hour " + hour, x, 0, hour == 5 ? "5:40 6:30" : "5:30 6:30");
        }
        OwnedClouds x = Check.under("hold 30;cloud 1 0 0 5 40;cloud 2 0 0 5 40;");
        x.order(5, 1, GUNS, 0);
        water("guns for another", x, 0, "5:30");
        water("guns for it", x, 1, "5:40 6:30");
        x.order(6, 1, GUNS, 0);
        water("guns in two hours", x, 1, "5:40 6:40 7:30");
        x.order(6, 1, FALL, 3);
        water("guns keep no order", x, 1, "5:40 6:37 7:30");
        OwnedClouds last = Check.under("hold 30;cloud 1 0 0 5 40;");
        for (int hour = 5; hour < 30; hour++) {
            last.order(hour, 0, FALL, 1);
        }
        last.order(5, 0, GUNS, 0);
        water("guns told last", last, 0, "5:39 6:29");
    }

    private static void ordersInTheirOrder() {
        CHECK.sentence("(e) ORDERS of this HOUR, in their order");
        for (int hour = 4; hour <= 6; hour++) {
            OwnedClouds x = Check.under("cloud 1 0 0 0 40;");
            x.order(hour, 0, FALL, 7);
            water("ordered in " + hour, x, 0, hour == 4 ? "3:40 4:33 5:33" : hour == 5 ? "4:40 5:33 6:33" : "5:40 6:33 7:33");
        }
        // seed 0 draws 0, then 4: which SALT comes first tells which one falls
        OwnedClouds x = Check.under("rate 5;cloud 1 0 0 0 40;cloud 2 0 0 0 40;");
        x.order(9, 1, SALT, 1);
        x.order(9, 0, SALT, 4);
        water("first told, below 1", x, 1, "9:35");
        water("then, not below 4", x, 0, "9:40");
        x.clear();
        x.order(9, 0, SALT, 4);
        x.order(9, 1, SALT, 1);
        water("first told, below 4", x, 0, "9:35");
        water("then, not below 1", x, 1, "9:40");
        x.clear();
        x.order(9, 0, SALT, 4);
        x.order(8, 1, SALT, 1);
        water("the hour is ahead of the order", x, 1, "7:40 8:35");
    }

    private static void fall() {
        CHECK.sentence("FALL n: n falls");
        for (int n : new int[] {1, 2, 98, 99}) {
            OwnedClouds x = falls("rate 99;cloud 1 0 0 0 999;", 3, n);
            water("fall " + n, x, 0, "2:999 3:" + (999 - n));
            day("fall " + n, x, "4:" + n);
        }
    }

    private static void salt() {
        CHECK.sentence("SALT c: R falls, if a DRAW below 8 is below c");
        int seen = 0;
        for (int seed = 0; seen != 255 && seed < 1000; seed++) {
            int draw = drawOf(seed, 1);
            if ((seen >> draw & 1) == 0) {
                seen |= 1 << draw;
                saltBy(seed, draw);
            }
        }
        int all = seen;
        CHECK.is("all draws were", 255, () -> all);
    }

    private static void saltBy(int seed, int draw) {
        for (int c = 0; c <= 8; c++) {
            OwnedClouds x = Check.under("rate 6;cloud 1 0 0 0 40;");
            x.order(3, 0, SALT, c);
            CHECK.is("draw " + draw + " and c " + c, draw < c ? 34 : 40, () -> x.cloud(seed, 0, 3, 0));
        }
    }

    /** The n-th DRAW of a SEED, in long arithmetic. */
    private static int drawOf(int seed, int n) {
        long state = seed & 0xffffffffL;
        for (int i = 0; i < n; i++) {
            state = (state * 1103515245L + 12345L) % 4294967296L;
        }
        return (int) (state / 65536 % 8);
    }

    private static void noMoreThanTheRate() {
        CHECK.sentence("each no more than R less what fell by ORDERS in this HOUR");
        for (int n = 9; n <= 11; n++) {
            water("fall " + n, falls("rate 10;cloud 1 0 0 0 40;", 3, n), 0, "3:" + (40 - Math.min(n, 10)));
            OwnedClouds two = falls("rate 10;cloud 1 0 0 0 40;", 3, 4);
            two.order(3, 0, FALL, n - 4);
            water("fall 4 and " + (n - 4), two, 0, "3:" + (40 - Math.min(n, 10)));
        }
        water("fall 999", falls("rate 10;cloud 1 0 0 0 40;", 3, 999), 0, "3:30");
        water("rate 1", falls("rate 1;cloud 1 0 0 0 40;", 3, 2), 0, "3:39");
        water("rate 99", falls("rate 99;cloud 1 0 0 0 400;", 3, 100), 0, "3:301");
        for (int n = 5; n <= 7; n++) {
            OwnedClouds x = falls("rate 6;cloud 1 0 0 0 40;", 3, n);
            x.order(3, 0, SALT, 8);
            x.order(3, 0, FALL, 1);
            water("salt behind " + n, x, 0, "3:34");
        }
        OwnedClouds before = falls("rate 6;cloud 1 0 0 0 40;", 3, 6);
        before.order(4, 0, FALL, 6);
        before.order(4, 0, FALL, 6);
        water("in each hour anew", before, 0, "2:40 3:34 4:28 5:28");
        OwnedClouds held = falls("rate 6;hold 20;cloud 1 0 0 0 40;", 0, 7);
        water("what fell by itself is no order", held, 0, "0:14");
        OwnedClouds nothing = Check.under("rate 6;cloud 1 0 0 0 40;");
        nothing.order(3, 0, SALT, 0);
        nothing.order(3, 0, GUNS, 0);
        nothing.order(3, 0, FALL, 7);
        water("salt that failed, and guns, leave R as it is", nothing, 0, "3:34");
        OwnedClouds other = falls("rate 6;cloud 1 0 0 0 40;cloud 2 0 0 0 40;", 3, 6);
        other.order(3, 1, FALL, 6);
        water("of each cloud", other, 0, "3:34");
        water("of each cloud", other, 1, "3:34");
    }

    private static void noMoreThanItHas() {
        CHECK.sentence("less what fell by ORDERS in this HOUR, than it has");
        for (int n = 9; n <= 11; n++) {
            OwnedClouds x = falls("rate 99;cloud 1 0 0 0 10;", 3, n);
            water("10, fall " + n, x, 0, "3:" + Math.max(10 - n, 0));
            day("10, fall " + n, x, "1:0 4:" + Math.min(n, 10));
        }
        for (int rate = 9; rate <= 11; rate++) {
            OwnedClouds x = Check.under("rate " + rate + ";cloud 1 0 0 0 10;");
            x.order(3, 0, SALT, 8);
            water("10, salt at rate " + rate, x, 0, "3:" + Math.max(10 - rate, 0));
        }
        OwnedClouds empty = falls("rate 99;cloud 1 0 0 0 10;", 3, 10);
        empty.order(3, 0, FALL, 1);
        empty.order(4, 0, FALL, 1);
        empty.order(5, 0, SALT, 8);
        water("nothing of nothing", empty, 0, "3:0 4:0 5:0 49:0");
        day("nothing of nothing", empty, "0:0 1:0 4:10");
    }

    private static String three() {
        return "join 2;rate 99;cloud 1 0 0 0 6;cloud 1 0 0 0 6;cloud 1 0 0 0 6;seen 0 1 1;seen 1 4 1;";
    }

    private static void ofSeveralCut() {
        CHECK.sentence("of each OWNER n times his by all (cut)");
        parts("3 of 18", falls(three(), 3, 3), 0, 3, "0:0 1:5 4:5 7:5");
        parts("6 of 18", falls(three(), 3, 6), 0, 3, "0:0 1:4 4:4 7:4");
        parts("18 of 18", falls(three(), 3, 18), 0, 3, "0:0 1:0 4:0 7:0");
        parts("19 of 18", falls(three(), 3, 19), 0, 3, "0:0 1:0 4:0 7:0");
        String uneven = "join 2;rate 99;cloud 1 0 0 0 1;cloud 1 0 0 0 10;cloud 1 0 0 0 19;seen 0 6 1;seen 1 4 1;";
        // of 30: 29 times 10 by 30 is 9, 29 times 1 is 0, 29 times 19 is 18; 2 more of the first two
        parts("29 of 30", falls(uneven, 3, 29), 0, 3, "4:0 6:0 7:1");
        parts("30 of 30", falls(uneven, 3, 30), 0, 3, "4:0 6:0 7:0");
        parts("28 of 30", falls(uneven, 3, 28), 0, 3, "4:0 6:0 7:2");
        parts("15 of 30", falls(uneven, 3, 15), 0, 3, "4:4 6:1 7:10");
        parts("3 of 30", falls(uneven, 3, 3), 0, 3, "4:8 6:1 7:18");
        OwnedClouds big = Check.under("join 2;hold 1;" + "cloud 1 0 0 0 999;".repeat(8) + "seen 0 0 0;"
            + "seen 1 1 0;seen 2 2 0;seen 3 3 0;seen 4 4 0;seen 5 5 0;seen 6 6 0;");
        parts("7991 of 7992: all but the last one's", big, 0, 0, "0:0 1:0 5:0 6:0 7:1");
        OwnedClouds held = Check.under("join 2;hold 16;cloud 1 0 0 0 6;cloud 1 0 0 0 6;cloud 1 0 0 0 6;seen 0 1 1;seen 1 4 1;");
        parts("2 of 18 above C", held, 0, 0, "1:5 4:5 7:6");
    }

    private static void restOneByOne() {
        CHECK.sentence("the rest one by one from the first OWNER on who has some left, round and round");
        parts("1 of 18", falls(three(), 3, 1), 0, 3, "0:0 1:5 4:6 7:6");
        parts("2 of 18", falls(three(), 3, 2), 0, 3, "0:0 1:5 4:5 7:6");
        parts("3 of 18", falls(three(), 3, 3), 0, 3, "0:0 1:5 4:5 7:5");
        parts("4 of 18", falls(three(), 3, 4), 0, 3, "0:0 1:4 4:5 7:5");
        parts("16 of 18", falls(three(), 3, 16), 0, 3, "0:0 1:0 4:1 7:1");
        parts("17 of 18", falls(three(), 3, 17), 0, 3, "0:0 1:0 4:0 7:1");
        OwnedClouds last = falls("rate 99;cloud 1 0 0 0 6;", 3, 1);
        parts("nobody's alone", last, 0, 3, "0:0 6:0 7:5");
        String first = "join 2;rate 99;cloud 1 0 0 0 1;cloud 1 0 0 0 1;seen 0 0 1;seen 1 6 1;";
        parts("1 of 2", falls(first, 3, 1), 0, 3, "0:0 6:1");
        OwnedClouds twice = falls(first, 3, 1);
        twice.order(4, 0, FALL, 1);
        parts("1 of 2, then 1 of 1", twice, 0, 4, "0:0 6:0");
    }

    private static void glacierTill() {
        CHECK.sentence("a glacier keeps it till its HOUR T (in later HOURS, and in it, it lies there as on ground)");
        for (int hour = 4; hour <= 6; hour++) {
            OwnedClouds x = falls("cloud 1 1 0 0 9;glacier 1 1 5;field 1 1 0 99 0 1;field 1 2 1 99 0 1;", hour, 9);
            CHECK.edge("fell in " + hour + ", thirst yet of", hour < 5 ? "0:99 1:90" : "0:90 1:99", f -> x.after(0, f, 0));
        }
        OwnedClouds none = falls("cloud 1 1 0 0 9;glacier 1 1 0;field 1 1 0 99 0 1;field 1 2 1 99 0 1;", 0, 9);
        CHECK.edge("T 0 keeps never, thirst yet of", "0:90 1:99", f -> none.after(0, f, 0));
        OwnedClouds first = falls("cloud 1 1 0 0 9;glacier 1 1 1;field 1 1 0 99 0 1;field 1 2 1 99 0 1;", 0, 9);
        CHECK.edge("T 1 keeps hour 0, thirst yet of", "0:99 1:90", f -> first.after(0, f, 0));
        for (int hour = 48; hour <= 49; hour++) {
            OwnedClouds x = falls("cloud 1 1 0 0 9;glacier 1 1 49;field 1 1 0 99 0 1;field 1 2 1 99 0 1;", hour, 9);
            CHECK.edge("T 49, fell in " + hour + ", thirst yet of", hour < 49 ? "0:99 1:90" : "0:90 1:99", f -> x.after(0, f, 0));
            day("T 49, fell in " + hour, x, "0:0 2:9 5:0");
        }
        OwnedClouds hail = falls("hail 8;cloud 1 1 0 0 9;glacier 1 1 5;field 1 1 0 99 7 1;", 4, 9);
        day("kept, no hail under it", hail, "4:9 7:0");
        OwnedClouds ground = falls("hail 8;cloud 1 1 0 0 9;glacier 1 1 5;field 1 1 0 99 7 1;", 5, 9);
        day("in its hour with hail", ground, "2:9 7:1");
        OwnedClouds beside = falls("cloud 1 1 0 0 9;glacier 0 1 49;glacier 2 1 49;glacier 1 0 49;field 1 1 0 99 0 1;", 4, 9);
        day("glaciers beside it keep nothing", beside, "2:9 4:0");
    }

    private static void fieldTakes() {
        CHECK.sentence("else the FIELD takes what it thirsts for yet, of the OWNERS one after the other, and pays P for each");
        for (int n = 9; n <= 11; n++) {
            OwnedClouds x = falls("cloud 1 1 0 0 40;seen 0 3 3;field 1 1 2 10 0 4;", 5, n);
            int takes = Math.min(n, 10);
            day("thirst 10, fall " + n, x, "2:" + takes + " 3:" + (n - takes) + " 4:0");
            CHECK.edge("after " + n, "0:" + (10 - takes) + " 1:" + (n - takes) + " 2:-1", what -> x.after(0, 0, what));
            CHECK.edge("account, " + n, "0:" + 4 * takes + " 1:" + (n - takes) + " 2:0", what -> x.account(0, 3, what));
            CHECK.edge("farmer, " + n, "0:" + 4 * takes + " 1:" + (n - takes), what -> x.farmer(0, 2, what));
        }
        OwnedClouds yet = falls("cloud 1 1 0 0 40;field 1 1 2 10 0 4;", 5, 7);
        yet.order(6, 0, FALL, 7);
        day("yet", yet, "2:10 3:4");
        OwnedClouds none = falls("cloud 1 1 0 0 40;field 1 1 2 0 0 4;", 5, 7);
        day("thirst 0", none, "2:0 3:7");
        OwnedClouds most = falls("rate 99;cloud 1 1 0 0 990;field 1 1 2 99 0 9;", 5, 99);
        day("thirst 99", most, "2:99 3:0");
        CHECK.edge("P 9", "0:891 1:0 2:0", what -> most.account(0, 7, what));
        most.order(6, 0, FALL, 1);
        day("thirst 99, one more", most, "2:99 3:1");
        OwnedClouds free = falls("cloud 1 1 0 0 40;field 1 1 2 10 0 0;", 5, 10);
        day("P 0", free, "2:10 3:0");
        CHECK.edge("P 0", "0:0 1:0 2:0", what -> free.account(0, 7, what));
        OwnedClouds beside = falls("cloud 1 1 0 0 40;field 2 1 2 10 0 4;field 1 2 2 10 0 4;field 0 1 2 10 0 4;field 1 0 2 10 0 4;", 5, 10);
        day("fields beside it take nothing", beside, "2:0 4:10");
    }

    private static void ownersOneAfterTheOther() {
        CHECK.sentence("of the OWNERS one after the other");
        int[][] paid = {{4, 0, 0}, {5, 0, 0}, {5, 1, 0}, {5, 4, 0}, {5, 5, 0}, {5, 5, 1}, {5, 5, 4}, {5, 5, 5}, {5, 5, 5}};
        int[] thirsts = {4, 5, 6, 9, 10, 11, 14, 15, 16};
        for (int i = 0; i < thirsts.length; i++) {
            OwnedClouds x = falls("join 2;cloud 1 1 0 0 5;cloud 1 1 0 0 5;cloud 1 1 0 0 5;seen 0 6 1;"
                + "seen 2 0 1;field 1 1 2 " + thirsts[i] + " 0 1;", 5, 15);
            String dues = "0:" + paid[i][0] + " 6:" + paid[i][1] + " 7:" + paid[i][2];
            CHECK.edge("thirst " + thirsts[i] + ", paid to", dues, owner -> x.account(0, owner, 0));
            String owed = "0:" + (5 - paid[i][0]) + " 6:" + (5 - paid[i][1]) + " 7:" + (5 - paid[i][2]);
            CHECK.edge("thirst " + thirsts[i] + ", owed by", owed, owner -> x.account(0, owner, 1));
        }
    }

    private static void floodOwed() {
        CHECK.sentence("what is more is FLOOD: each OWNER owes the FARMER D for each of his");
        for (int d = 0; d <= 9; d++) {
            OwnedClouds x = falls("flood " + d + ";cloud 1 1 0 0 40;seen 0 3 3;field 1 1 2 10 0 4;", 5, 11);
            CHECK.edge("D " + d, "0:40 1:" + d + " 2:0", what -> x.account(0, 3, what));
            CHECK.edge("farmer, D " + d, "0:40 1:" + d, what -> x.farmer(0, 2, what));
            day("D " + d, x, "2:10 3:1");
        }
        OwnedClouds two = falls("flood 2;cloud 1 1 0 0 40;field 1 1 2 10 0 4;field 2 1 2 0 0 0;cloud 2 1 0 0 9;seen 1 0 0;", 5, 12);
        two.order(5, 1, FALL, 3);
        CHECK.edge("farmer of two fields", "0:40 1:10", what -> two.farmer(0, 2, what));
        CHECK.edge("nobody's", "0:40 1:4 2:0", what -> two.account(0, 7, what));
        CHECK.edge("the other's", "0:0 1:6 2:0", what -> two.account(0, 0, what));
        CHECK.edge("flood on", "-1:IOOBE 0:2 1:3 2:IOOBE", f -> two.after(0, f, 1));
    }

    private static void hailAbove() {
        CHECK.sentence("HAIL, if more than H fell");
        for (int[] one : new int[][] {{1, 1}, {1, 2}, {10, 9}, {10, 10}, {10, 11}, {98, 99}, {99, 99}}) {
            boolean hail = one[1] > one[0];
            OwnedClouds x = falls("hail " + one[0] + ";rate 99;cloud 1 1 0 0 500;seen 0 3 3;field 1 1 2 99 70 0;", 5, one[1]);
            String name = "H " + one[0] + ", fell " + one[1];
            day(name, x, "3:0 7:" + (hail ? 1 : 0));
            CHECK.edge(name, hail ? "0:0 1:0 2:70" : "0:0 1:0 2:0", what -> x.account(0, 3, what));
            CHECK.edge(name + ", farmer", hail ? "0:0 1:70" : "0:0 1:0", what -> x.farmer(0, 2, what));
            CHECK.is(name + ", hour", hail ? 5 : -1, () -> x.after(0, 0, 2));
        }
        for (int n = 5; n <= 7; n++) {
            OwnedClouds x = falls("hail 10;cloud 1 1 0 0 500;cloud 1 1 1 0 500;field 1 1 2 99 70 0;", 5, 5);
            x.order(5, 1, FALL, n - 1);
            day("all that fell on it, 5 and " + (n - 1), x, n > 6 ? "7:1" : "7:0");
        }
        OwnedClouds hours = falls("hail 10;cloud 1 1 0 0 500;field 1 1 2 99 70 0;", 5, 10);
        hours.order(6, 0, FALL, 10);
        day("in an hour", hours, "2:20 7:0");
        OwnedClouds above = Check.under("hail 99;hold 399;cloud 1 1 0 0 499;field 1 1 2 99 70 0;");
        day("H 99, 100 above C", above, "2:99 3:1 7:1");
        OwnedClouds noField = falls("hail 10;cloud 1 1 0 0 500;field 2 1 2 99 70 0;", 5, 11);
        day("on no field", noField, "4:11 7:0");
        OwnedClouds worthless = falls("hail 10;cloud 1 1 0 0 500;field 1 1 2 99 0 0;", 5, 11);
        day("V 0", worthless, "2:11 7:1");
        CHECK.is("V 0", 0, () -> worthless.account(0, 7, 2));
        OwnedClouds most = falls("hail 10;cloud 1 1 0 0 500;field 1 1 2 99 99 0;", 5, 11);
        CHECK.is("V 99", 99, () -> most.account(0, 7, 2));
        for (int hour : new int[] {0, 49}) {
            OwnedClouds x = falls("hail 10;cloud 1 1 0 0 500;field 1 1 2 99 99 0;", hour, 11);
            CHECK.is("hail in", hour, () -> x.after(0, 0, 2));
        }
    }

    private static void hailOfTheMost() {
        CHECK.sentence("the OWNER of the most (of these the first) owes V");
        for (int n = 5; n <= 7; n++) {
            OwnedClouds x = falls("hail 1;cloud 1 1 0 0 99;seen 0 3 3;cloud 1 1 1 0 99;seen 1 2 2;field 1 1 2 99 70 0;", 5, 6);
            x.order(5, 1, FALL, n);
            CHECK.edge("6 of 3's, " + n + " of 2's, owed by", n < 6 ? "1:0 2:0 3:70" : "1:0 2:70 3:0", owner -> x.account(0, owner, 2));
        }
        for (int n = 5; n <= 7; n++) {
            OwnedClouds x = falls("hail 1;cloud 1 1 0 0 99;cloud 1 1 1 0 99;seen 1 0 0;field 1 1 2 99 70 0;", 5, 6);
            x.order(5, 1, FALL, n);
            CHECK.edge("6 of nobody's, " + n + " of 0's, owed by", n < 6 ? "0:0 7:70" : "0:70 7:0", owner -> x.account(0, owner, 2));
        }
    }

    private static void hailOnce() {
        CHECK.sentence("owes V, once in a DAY for each FIELD");
        OwnedClouds x = falls("hail 1;cloud 1 1 0 0 99;cloud 2 1 0 0 99;field 1 1 2 99 70 0;field 2 1 2 99 5 0;", 5, 2);
        day("once", x, "7:1");
        x.order(6, 0, FALL, 2);
        x.order(49, 0, FALL, 20);
        day("not again", x, "7:1");
        CHECK.is("the first hour", 5, () -> x.after(0, 0, 2));
        CHECK.is("owed once", 70, () -> x.account(0, 7, 2));
        x.order(7, 1, FALL, 2);
        day("the other field", x, "7:2");
        CHECK.is("its hour", 7, () -> x.after(0, 1, 2));
        CHECK.is("owed for both", 75, () -> x.account(0, 7, 2));
        day("each day anew", x, "7:2");
    }

    private static void waste() {
        CHECK.sentence("Without a FIELD it is WASTE.");
        for (int at = 0; at <= 2; at++) {
            OwnedClouds x = falls("flood 9;cloud 1 1 0 0 9;field " + at + " 1 2 5 50 5;", 5, 8);
            day("a field at " + at, x, at == 1 ? "0:1 2:5 3:3 4:0 5:0" : "0:1 2:0 3:0 4:8 5:0");
            CHECK.edge("account", at == 1 ? "0:25 1:27 2:0" : "0:0 1:0 2:0", what -> x.account(0, 7, what));
        }
    }

    private static void meltsBelow() {
        CHECK.sentence("In HOUR T, behind all this, what a glacier keeps comes onto the CELL below, likewise");
        OwnedClouds x = falls("flood 3;cloud 1 1 0 0 9;seen 0 5 5;glacier 1 1 20;field 1 2 6 7 70 4;"
            + "field 0 2 0 9 9 9;field 2 2 0 9 9 9;field 1 3 0 9 9 9;", 5, 9);
        CHECK.edge("the field below", "0:0 1:2 2:-1", what -> x.after(0, 0, what));
        CHECK.edge("his", "0:28 1:6 2:0", what -> x.account(0, 5, what));
        CHECK.edge("its farmer's", "0:28 1:6", what -> x.farmer(0, 6, what));
        day("melted", x, "0:0 2:7 3:2 4:0 5:0");
        day("no field below", falls("cloud 1 1 0 0 9;glacier 1 1 20;", 5, 9), "2:0 3:0 4:9 5:0");
        day("onto the lowest row", falls("sky 2 2;cloud 1 0 0 0 9;glacier 1 0 20;field 1 1 0 5 0 0;", 5, 9), "2:5 3:4 4:0 5:0");
        for (int t = 19; t <= 21; t++) {
            OwnedClouds two = falls("cloud 1 1 0 0 9;glacier 1 1 20;glacier 1 2 " + t + ";field 1 2 0 99 0 0;field 1 3 1 99 0 0;", 5, 9);
            CHECK.edge("a glacier below till " + t + ", thirst of", t > 20 ? "0:99 1:90" : "0:90 1:99", f -> two.after(0, f, 0));
            OwnedClouds swap = falls("cloud 1 1 0 0 9;glacier 1 2 " + t + ";glacier 1 1 20;field 1 2 0 99 0 0;field 1 3 1 99 0 0;", 5, 9);
            CHECK.edge("told first, a glacier below till " + t + ", thirst of", t > 20 ? "0:99 1:90" : "0:90 1:99",
                f -> swap.after(0, f, 0));
        }
        OwnedClouds asked = falls("cloud 1 1 0 0 9;glacier 1 1 20;", 5, 9);
        water("while it is kept", asked, 0, "20:0 19:0");
        day("kept by no day before", asked, "4:9");
        OwnedClouds both = falls("join 2;cloud 1 1 0 0 4;cloud 1 1 0 0 5;seen 1 2 2;glacier 1 1 20;field 1 2 0 6 0 1;", 5, 9);
        CHECK.edge("of the owners one after the other, paid to", "2:5 7:1", owner -> both.account(0, owner, 0));
        CHECK.edge("of the owners one after the other, owed by", "2:0 7:3", owner -> both.account(0, owner, 1));
    }

    private static void meltsWithoutHail() {
        CHECK.sentence("comes onto the CELL below, likewise, without HAIL");
        for (int n = 10; n <= 12; n++) {
            OwnedClouds x = falls("hail 10;cloud 1 1 0 0 20;glacier 1 1 20;field 1 2 6 99 70 0;", 5, n);
            day("kept " + n, x, "2:" + n + " 7:0");
            CHECK.is("no hour", -1, () -> x.after(0, 0, 2));
            OwnedClouds both = falls("hail 10;cloud 1 1 0 0 20;cloud 1 2 0 0 20;glacier 1 1 20;field 1 2 6 99 70 0;", 5, 12);
            both.order(20, 1, FALL, n);
            day("kept 12, and fell " + n, both, n > 10 ? "7:1" : "7:0");
        }
    }

    private static void meltsBehindAllThis() {
        CHECK.sentence("In HOUR T, behind all this, what a glacier keeps");
        for (int hour = 19; hour <= 21; hour++) {
            OwnedClouds x = falls("cloud 1 1 0 0 5;seen 0 1 1;cloud 1 2 0 0 5;seen 1 6 1;glacier 1 1 20;field 1 2 0 7 0 1;", 5, 5);
            x.order(hour, 1, FALL, 5);
            CHECK.edge("the other fell in " + hour + ", paid to", hour > 20 ? "1:5 6:2" : "1:2 6:5", owner -> x.account(0, owner, 0));
        }
    }

    private static void draws() {
        CHECK.sentence("DRAWS: the SEED (32 bits) becomes itself times 1,103,515,245, and 12,345 (it wraps); its bits 16 to 18.");
        int[] seeds = {0, 1, 2, -1, -2, 65535, 65536, Integer.MAX_VALUE - 1, Integer.MAX_VALUE, Integer.MIN_VALUE, Integer.MIN_VALUE + 1};
        for (int seed : seeds) {
            for (int c = 0; c <= 8; c++) {
                OwnedClouds x = Check.under("rate 1;cloud 1 1 0 0 99;");
                int due = 99;
                for (int hour = 0; hour < 30; hour++) {
                    x.order(hour, 0, SALT, c);
                    due -= drawOf(seed, hour + 1) < c ? 1 : 0;
                    int left = due;
                    int asked = hour;
                    CHECK.is("seed " + seed + ", c " + c + ", hour " + hour, left, () -> x.cloud(seed, 0, asked, 0));
                }
            }
        }
        OwnedClouds day = Check.under("rate 1;cloud 1 1 0 0 99;");
        day.order(0, 0, SALT, 4);
        CHECK.is("each day from its seed", day.day(7, 4), () -> day.day(7, 4));
    }

    private static void waterAddsUp() {
        CHECK.sentence("WATER adds up: in the SKY, GONE, taken, FLOOD, WASTE, kept.");
        OwnedClouds x = Check.under("sky 4 4;rate 9;hold 90;cloud 0 1 0 0 100;cloud 1 1 1 0 100;cloud 2 1 2 0 100;cloud 2 1 2 3 100;"
            + "wind 0 40 0 1;field 1 1 0 7 1 1;glacier 2 1 30;field 2 2 0 20 1 1;");
        x.order(5, 0, FALL, 3);
        x.order(5, 1, FALL, 3);
        x.order(5, 2, FALL, 3);
        day("all", x, "0:174 1:87 2:27 3:99 4:13 5:0 6:1");
        int sum = 0;
        for (int what = 0; what <= 5; what++) {
            sum += x.day(0, what);
        }
        int all = sum;
        CHECK.is("together", 400, () -> all);
    }

    private static void orderOf() {
        CHECK.sentence("An ORDER: HOUR, a CLOUD, FALL (kind 0; n 1 to 999), SALT (1; c 0 to 8), guns (2; n 0): how many there are");
        OwnedClouds x = Check.under("cloud 1 1 0 0 99;cloud 1 1 0 0 99;");
        CHECK.edge("hour", "-1:IAE 0:1 1:2 48:3 49:4 50:IAE", hour -> x.order(hour, 0, FALL, 1));
        CHECK.edge("cloud", "-1:NSE 0:5 1:6 2:NSE 8:NSE", k -> x.order(0, k, FALL, 1));
        CHECK.edge("fall", "-1:IAE 0:IAE 1:7 2:8 998:9 999:10 1000:IAE", n -> x.order(0, 0, FALL, n));
        CHECK.edge("salt", "-1:IAE 0:11 1:12 7:13 8:14 9:IAE", c -> x.order(0, 0, SALT, c));
        CHECK.edge("guns", "-1:IAE 0:15 1:IAE", n -> x.order(0, 0, GUNS, n));
        CHECK.edge("kind of n 0", "-1:IAE 0:IAE 1:16 2:17 3:IAE", kind -> x.order(0, 0, kind, 0));
        CHECK.edge("kind of n 1", "-1:IAE 0:18 1:19 2:IAE 3:IAE", kind -> x.order(0, 0, kind, 1));
        CHECK.edge("far off hour", "-2147483648:IAE 2147483647:IAE", n -> x.order(n, 0, FALL, 1));
        CHECK.edge("far off cloud", "-2147483648:NSE 2147483647:NSE", n -> x.order(0, n, FALL, 1));
        CHECK.edge("far off kind", "-2147483648:IAE 2147483647:IAE", n -> x.order(0, 0, n, 0));
        CHECK.edge("far off n", "-2147483648:IAE 2147483647:IAE", n -> x.order(0, 0, FALL, n));
        CHECK.is("refused ones are none", 19, () -> x.count(0));
        OwnedClouds none = new OwnedClouds();
        CHECK.is("no cloud at all", Check.NSE, () -> none.order(0, 0, FALL, 1));
    }

    private static void thirtyOrders() {
        CHECK.sentence("-1: there are 30");
        OwnedClouds x = Check.under("rate 99;cloud 1 1 0 0 99;");
        for (int i = 1; i <= 30; i++) {
            CHECK.is("order", i, () -> x.order(1, 0, FALL, 1));
        }
        CHECK.is("one more", -1, () -> x.order(2, 0, FALL, 1));
        CHECK.is("and one more", -1, () -> x.order(1, 0, GUNS, 0));
        CHECK.is("there are 30", 30, () -> x.count(0));
        water("thirty are obeyed, no more", x, 0, "0:99 1:69 2:69");
        CHECK.is("wrong when full: the cloud", Check.NSE, () -> x.order(1, 1, FALL, 1));
        CHECK.is("wrong when full: n", Check.IAE, () -> x.order(1, 0, FALL, 0));
        x.clear();
        CHECK.is("again", 1, () -> x.order(1, 0, FALL, 1));
    }

    private static void notThere() {
        CHECK.sentence("(To a CLOUD that is not there then it is nothing; one that joined is not.)");
        for (int hour = 4; hour <= 8; hour++) {
            OwnedClouds x = falls("sky 3 3;cloud 1 1 0 5 9;wind 0 0 2 1;", hour, 4);
            day("from 5 to 6 there, fall in " + hour, x, hour == 5 || hour == 6 ? "1:5 4:4" : "1:9 4:0");
        }
        for (int hour = 4; hour <= 6; hour++) {
            OwnedClouds x = Check.under("cloud 1 1 0 5 9;cloud 1 1 0 4 7;");
            x.order(hour, 1, FALL, 4);
            day("joins in 5, fall in " + hour, x, hour < 5 ? "0:12 4:4" : "0:16 4:0");
            OwnedClouds guns = Check.under("hold 12;cloud 1 1 0 5 9;cloud 1 1 0 4 7;");
            guns.order(hour, 1, GUNS, 0);
            day("joins in 5, guns in " + hour, guns, "0:12 4:4");
        }
        // no DRAW is taken for one that is not there: seed 0 draws 0, then 4
        OwnedClouds draw = Check.under("rate 5;cloud 1 1 0 0 40;cloud 2 2 0 9 40;");
        draw.order(8, 1, SALT, 8);
        draw.order(9, 0, SALT, 1);
        water("no draw", draw, 0, "8:40 9:35");
        draw.clear();
        draw.order(9, 1, SALT, 8);
        draw.order(9, 0, SALT, 1);
        water("a draw", draw, 0, "8:40 9:40");
    }

    private static void clearAll() {
        CHECK.sentence("`int clear()`: All ORDERS go: how many.");
        for (int many : new int[] {0, 1, 2, 29, 30}) {
            OwnedClouds x = Check.under("cloud 1 1 0 0 99;");
            for (int i = 0; i < many; i++) {
                x.order(i, 0, FALL, 1);
            }
            x.bid(1, 1, 1);
            x.gauge(0, 0, 0);
            CHECK.is("all of " + many, many, x::clear);
            CHECK.is("none again", 0, x::clear);
            CHECK.edge("count", "0:0 1:1 2:1", x::count);
            CHECK.is("nothing falls", 99, () -> x.day(0, 0));
        }
        CHECK.is("of a new object", 0, () -> new OwnedClouds().clear());
    }

    private static void dayWhat() {
        CHECK.sentence("A DAY by a SEED: 0 in the SKY at its end, 1 GONE, 2 taken, 3 FLOOD, 4 WASTE, 5 kept by glaciers, 6 how often CLOUDS JOIN, 7 HAILS.");
        OwnedClouds x = Check.under("sky 4 4;hail 1;cloud 0 0 0 0 50;cloud 3 3 1 0 11;wind 1 0 2 1;"
            + "cloud 1 1 2 0 7;cloud 1 1 2 9 7;field 1 1 0 5 9 1;glacier 0 0 9;");
        x.order(8, 0, FALL, 3);
        x.order(9, 2, FALL, 6);
        day("all", x, "-1:IAE 0:55 1:11 2:5 3:1 4:3 5:0 6:1 7:1 8:IAE -2147483648:IAE 2147483647:IAE");
    }

    private static void cloudAtTheEnd() {
        CHECK.sentence("A CLOUD at the end of an HOUR: 0 WATER, 1 its OWNER (whose most is in it, of these the first), 2 where (100 times X, and Y)");
        OwnedClouds x = Check.under("sky 8 8;cloud 7 7 0 3 9;cloud 0 0 1 3 8;cloud 7 0 1 3 8;seen 0 6 6;wind 0 0 1 0;");
        x.order(4, 0, FALL, 2);
        CHECK.edge("what", "-1:IAE 0:9 1:6 2:707 3:IAE -2147483648:IAE 2147483647:IAE", what -> x.cloud(0, 0, 3, what));
        CHECK.edge("an hour later, what", "0:7 1:6 2:706", what -> x.cloud(0, 0, 4, what));
        CHECK.edge("hour", "-1:IAE 2:-1 3:9 4:7 10:7 11:-1 49:-1 50:IAE -2147483648:IAE 2147483647:IAE", hour -> x.cloud(0, 0, hour, 0));
        CHECK.edge("cloud", "-1:NSE 0:707 1:0 2:700 3:NSE -2147483648:NSE 2147483647:NSE", k -> x.cloud(0, k, 3, 2));
        for (int n = 1; n <= 3; n++) {
            OwnedClouds two = Check.under("join 2;rate 99;cloud 1 1 0 0 " + n + ";cloud 1 1 0 0 2;seen 0 5 5;seen 1 4 4;");
            int due = n > 2 ? 5 : 4;
            CHECK.is(n + " of 5's, 2 of 4's", due, () -> two.cloud(0, 0, 0, 1));
        }
        OwnedClouds empty = falls("cloud 1 1 0 0 2;seen 0 5 5;", 3, 1);
        CHECK.edge("one left: owner in", "2:5 3:5", hour -> empty.cloud(0, 0, hour, 1));
        empty.order(4, 0, FALL, 1);
        CHECK.edge("nothing left: where", "4:101 49:101", hour -> empty.cloud(0, 0, hour, 2));
        CHECK.edge("nothing left: water", "4:0 49:0", hour -> empty.cloud(0, 0, hour, 0));
        CHECK.edge("nothing left: all have as much, the first", "3:5 4:0 49:0", hour -> empty.cloud(0, 0, hour, 1));
    }

    private static void cloudNotThere() {
        CHECK.sentence("NONE: it is not there.");
        OwnedClouds x = Check.under("sky 3 3;cloud 1 1 0 5 9;cloud 2 1 0 6 9;wind 0 0 2 1;");
        for (int what = 0; what <= 2; what++) {
            int asked = what;
            CHECK.edge("first, what " + what, "4:-1 7:-1 8:-1 49:-1", hour -> x.cloud(0, 0, hour, asked));
            CHECK.edge("joined, what " + what, "5:-1 6:-1 7:-1 49:-1", hour -> x.cloud(0, 1, hour, asked));
        }
        CHECK.edge("there in", "4:-1 5:9 6:18 7:-1", hour -> x.cloud(0, 0, hour, 0));
    }

    private static void partOf() {
        CHECK.sentence("What of a CLOUD's WATER is an OWNER's (0 to 7) at the end of an HOUR (0, if it is not there).");
        OwnedClouds x = Check.under("sky 3 3;join 2;cloud 1 1 0 5 9;cloud 2 1 0 6 8;seen 0 0 0;wind 0 0 2 1;");
        CHECK.edge("owner", "-1:IAE 0:9 1:0 6:0 7:8 8:IAE -2147483648:IAE 2147483647:IAE", o -> x.part(0, 0, 6, o));
        CHECK.edge("hour", "-1:IAE 0:0 4:0 5:9 6:9 7:0 49:0 50:IAE -2147483648:IAE 2147483647:IAE", hour -> x.part(0, 0, hour, 0));
        CHECK.edge("of one that joined, hour", "5:0 6:0 7:0 49:0", hour -> x.part(0, 1, hour, 7));
        CHECK.edge("cloud", "-1:NSE 0:8 1:0 2:NSE -2147483648:NSE 2147483647:NSE", k -> x.part(0, k, 6, 7));
    }

    private static void accountOf() {
        CHECK.sentence("What an OWNER (0 to 7) has at the end: 0 paid by FIELDS, 1 owed for FLOOD, 2 owed for HAIL.");
        OwnedClouds x = falls("hail 1;flood 2;cloud 1 1 0 0 9;seen 0 0 0;field 1 1 5 5 33 4;cloud 2 1 0 0 9;field 2 1 6 5 44 3;", 3, 9);
        x.order(49, 1, FALL, 6);
        CHECK.edge("first's", "-1:IAE 0:20 1:8 2:33 3:IAE -2147483648:IAE 2147483647:IAE", what -> x.account(0, 0, what));
        CHECK.edge("nobody's", "-1:IAE 0:15 1:2 2:44 3:IAE", what -> x.account(0, 7, what));
        CHECK.edge("paid to", "-1:IAE 0:20 1:0 6:0 7:15 8:IAE -2147483648:IAE 2147483647:IAE", o -> x.account(0, o, 0));
    }

    private static void farmerOf() {
        CHECK.sentence("What a FARMER (0 to 6) pays (what 0), is owed (1).");
        OwnedClouds x = falls("hail 1;flood 2;cloud 1 1 0 0 9;seen 0 0 0;field 1 1 0 5 33 4;cloud 2 1 0 0 9;field 2 1 6 5 44 3;", 3, 9);
        x.order(49, 1, FALL, 6);
        CHECK.edge("first, what", "-1:IAE 0:20 1:41 2:IAE -2147483648:IAE 2147483647:IAE", what -> x.farmer(0, 0, what));
        CHECK.edge("pays", "-1:IAE 0:20 1:0 5:0 6:15 7:IAE -2147483648:IAE 2147483647:IAE", f -> x.farmer(0, f, 0));
        CHECK.edge("is owed", "-1:IAE 0:41 1:0 5:0 6:46 7:IAE", f -> x.farmer(0, f, 1));
    }

    private static void afterOf() {
        CHECK.sentence("A FIELD at the end: 0 thirst yet, 1 FLOOD on it, 2 the HOUR of its HAIL (NONE).");
        OwnedClouds x = falls("hail 5;cloud 1 1 0 0 9;field 1 1 0 5 33 4;cloud 2 1 0 0 9;field 2 1 6 5 44 3;", 3, 6);
        x.order(49, 1, FALL, 4);
        CHECK.edge("first, what", "-1:IAE 0:0 1:1 2:3 3:IAE -2147483648:IAE 2147483647:IAE", what -> x.after(0, 0, what));
        CHECK.edge("second, what", "-1:IAE 0:1 1:0 2:-1 3:IAE", what -> x.after(0, 1, what));
        CHECK.edge("thirst of", "-1:IOOBE 0:0 1:1 2:IOOBE 11:IOOBE -2147483648:IOOBE 2147483647:IOOBE", f -> x.after(0, f, 0));
        x.order(49, 1, FALL, 1);
        CHECK.edge("just enough", "0:0 1:0 2:-1", what -> x.after(0, 1, what));
        x.order(49, 1, FALL, 1);
        CHECK.edge("one more", "0:0 1:1 2:49", what -> x.after(0, 1, what));
        OwnedClouds dry = Check.under("field 0 0 0 99 9 9;field 1 0 0 0 9 9;");
        CHECK.edge("no rain", "0:99 1:0 2:-1", what -> dry.after(0, 0, what));
        CHECK.edge("no thirst", "0:0 1:0 2:-1", what -> dry.after(0, 1, what));
    }

    private static void severalWrong() {
        OwnedClouds x = Check.under("cloud 1 1 0 0 9;field 0 0 0 0 0 0;");
        CHECK.sentence("public int order(int hour, int cloud, int kind, int n) throws NoSuchElementException, IllegalArgumentException;");
        CHECK.is("all wrong", Check.NSE, () -> x.order(50, 1, 3, -1));
        CHECK.is("hour and cloud", Check.NSE, () -> x.order(-1, 1, 0, 1));
        CHECK.is("cloud and n", Check.NSE, () -> x.order(0, 1, 0, 0));
        CHECK.is("all but the cloud", Check.IAE, () -> x.order(50, 0, 3, -1));
        CHECK.sentence("public int cloud(int seed, int cloud, int hour, int what) throws NoSuchElementException, IllegalArgumentException;");
        CHECK.is("all wrong", Check.NSE, () -> x.cloud(0, 1, 50, 3));
        CHECK.is("cloud and what", Check.NSE, () -> x.cloud(0, 1, 0, 3));
        CHECK.is("hour and what", Check.IAE, () -> x.cloud(0, 0, 50, 3));
        CHECK.sentence("public int part(int seed, int cloud, int hour, int owner) throws NoSuchElementException, IllegalArgumentException;");
        CHECK.is("all wrong", Check.NSE, () -> x.part(0, 1, 50, 8));
        CHECK.is("cloud and owner", Check.NSE, () -> x.part(0, 1, 0, 8));
        CHECK.is("hour and owner", Check.IAE, () -> x.part(0, 0, 50, 8));
        CHECK.sentence("public int after(int seed, int field, int what) throws IndexOutOfBoundsException, IllegalArgumentException;");
        CHECK.is("both wrong", Check.IOOBE, () -> x.after(0, 1, 3));
        CHECK.is("the field", Check.IOOBE, () -> x.after(0, 1, 2));
        CHECK.is("the what", Check.IAE, () -> x.after(0, 0, 3));
    }
}
