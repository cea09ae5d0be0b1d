/** Promises 1 to 8, and 31 for the TAPE: a new object, texts and their FAULTS, what a SKY tells. */
public final class SkyTest {
    private static final Check CHECK = new Check();

    public static void main(String[] args) {
        newObject();
        feeding();
        reading();
        faults();
        limits();
        owners();
        paths();
        fields();
        CHECK.end();
    }

    private static void newObject() {
        OwnedClouds x = new OwnedClouds();
        int[] told = {6, 5, 0, 0, 0, 0, 20, 999, 50, 1};
        for (int what = 0; what < told.length; what++) {
            int asked = what;
            CHECK.is("1: told " + what, told[what], () -> x.told(asked));
        }
        CHECK.is("1: fault", -1, x::fault);
        for (int what = 0; what < 5; what++) {
            int asked = what;
            CHECK.is("1: count " + what, 0, () -> x.count(asked));
        }
        CHECK.is("1: no cloud", Check.NSE, () -> x.owner(0));
        CHECK.is("1: no field", Check.IOOBE, () -> x.field(0, 0));
        CHECK.is("1: one way", 1, () -> x.explain(0));
        CHECK.is("1: a day without water", 0, () -> x.day(1, 0));
        CHECK.is("1: NONE", -1, () -> OwnedClouds.NONE);
    }

    private static void feeding() {
        OwnedClouds x = new OwnedClouds();
        for (int i = 1; i <= 30; i++) {
            CHECK.is("2: feed " + i, 20 * i, () -> x.feed(-1, 0, Integer.MIN_VALUE, 1, 2));
        }
        CHECK.is("2: full", -1, () -> x.feed(1, 2, 3, 4, 5));
        CHECK.is("2: doing nothing", 600, () -> x.count(4));
        CHECK.is("3: a byte too many", Check.IAE, () -> x.sky(601));
        CHECK.is("3: less than none", Check.IAE, () -> x.sky(-1));
        CHECK.is("3: the tape stays", 600, () -> x.count(4));
        CHECK.is("3: a byte 255", -9, () -> x.sky(600));
        CHECK.is("3: the tape is empty", 0, () -> x.count(4));
        CHECK.is("4: at 0", 0, x::fault);
        CHECK.is("4: sky that throws", Check.IAE, () -> x.sky(1));
        CHECK.is("4: leaves the place", 0, x::fault);
        CHECK.is("2: the highest byte first", 20, () -> x.feed(0x6a6f696e, 0x20323b20, 0x20202020, 0x20202020, 0x20202020));
        CHECK.is("3: read", 0, () -> x.sky(20));
        CHECK.is("2: join 2", 2, () -> x.told(5));
        CHECK.is("4: none", -1, x::fault);
    }

    private static void reading() {
        OwnedClouds x = Check.under("sky 8 2;cloud 7 1 2 49 999;field 0 0 0 0 0 0;field 0 1 6 99 99 9;glacier 7 0 49;"
            + "join 1;join 2;rate 1;rate 99;hold 1;hold 998;hail 99;hail 1;flood 9;flood 0;wind 2 49 0 2;");
        int[] told = {8, 2, 1, 2, 1, 2, 99, 998, 1, 0};
        for (int what = 0; what < told.length; what++) {
            int asked = what;
            CHECK.is("5: told " + what, told[what], () -> x.told(asked));
        }
        CHECK.is("5: another what", Check.IAE, () -> x.told(10));
        CHECK.is("5: another what", Check.IAE, () -> x.told(-1));
        x.order(1, 0, 0, 1);
        x.bid(1, 1, 1);
        x.gauge(0, 0, 0);
        x.image();
        CHECK.is("3: a fault", -8, () -> x.sky(Check.feed(x, "sky 3 3;join 3;")));
        CHECK.is("3: all stays", 8, () -> x.told(0));
        for (int what = 0; what < 4; what++) {
            int asked = what;
            CHECK.is("3: all stays, count " + what, 1, () -> x.count(asked));
        }
        Check.feed(x, "sky 3 3;");
        CHECK.is("3: no bytes", 0, () -> x.sky(0));
        CHECK.is("3: a sky without clauses", 6, () -> x.told(0));
        CHECK.is("3: rate is as without", 20, () -> x.told(6));
        for (int what = 0; what < 5; what++) {
            int asked = what;
            CHECK.is("3: gone, count " + what, 0, () -> x.count(asked));
        }
        CHECK.is("3: no image", -1, x::restore);
        CHECK.is("31: others", -1, () -> x.count(5));
        CHECK.is("31: others", -1, () -> x.count(-1));
        spaces();
        behindTheEnd();
        again();
    }

    /** Bytes of the TAPE behind the first n are no part of the text. */
    private static void behindTheEnd() {
        cut("join 1;", 6, -9, 6);
        cut("join 1 ;", 6, -9, 6);
        cut("join 1;", 4, -9, 4);
        cut("join 10;", 6, -9, 6);
        cut("join 1; x", 7, 0, -1);
        cut("join 1;  x", 8, 0, -1);
        cut("rates 1;", 4, -9, 4);
        cut("rate   1;", 5, -9, 5);
    }

    private static void cut(String text, int n, int answer, int place) {
        OwnedClouds x = new OwnedClouds();
        Check.feed(x, text);
        CHECK.is("3: " + n + " of " + text, answer, () -> x.sky(n));
        CHECK.is("4: " + n + " of " + text, place, x::fault);
    }

    /** Nothing of the SKY before is left in the next one. */
    private static void again() {
        OwnedClouds x = Check.under("sky 3 3;join 1;wind 0 1 2 2;cloud 0 0 0 0 9;seen 0 1 1;field 0 0 1 1 1 1;glacier 0 0 9;"
            + "rate 1;hold 1;hail 1;flood 9;");
        CHECK.is("3: again", 1, () -> x.sky(Check.feed(x, "cloud 1 1 0 0 5;")));
        int[] told = {6, 5, 1, 0, 0, 0, 20, 999, 50, 1};
        for (int what = 0; what < told.length; what++) {
            int asked = what;
            CHECK.is("5: again " + what, told[what], () -> x.told(asked));
        }
        CHECK.is("6: again", 7, () -> x.owner(0));
        CHECK.is("7: no wind", 101, () -> x.path(0, 9));
        CHECK.is("8: no field", Check.IOOBE, () -> x.field(0, 0));
        CHECK.is("12: holds it", 5, () -> x.cloud(0, 0, 9, 0));
    }

    private static void spaces() {
        text("", 0, -1);
        text("    ", 0, -1);
        text(" cloud 1 2 0 0 5 ; ", 1, -1);
        text("cloud1 2 0 0 5;", 1, -1);
        text("cloud 0001 00002 0 0 00000000000000000999;", 1, -1);
        text("sky8 8;cloud 0 0 0 0 1;cloud 0 0 0 0 1;", 2, -1);
        text("join 1;hold 5 ;  rate 2;", 0, -1);
    }

    private static void text(String text, int answer, int place) {
        OwnedClouds x = new OwnedClouds();
        Check.feed(x, text);
        CHECK.is("3: " + text, answer, () -> x.sky(text.length()));
        CHECK.is("4: " + text, place, x::fault);
    }

    private static void fault(String text, int kind, int place) {
        text(text, kind - 10, place);
    }

    private static void faults() {
        fault(";", 1, 0);
        fault("  ;", 1, 2);
        fault("join 1;;", 1, 7);
        fault("join 1", 1, 6);
        fault("join 1  ", 1, 8);
        fault("join", 1, 4);
        fault("join  ", 1, 6);
        fault("join x;", 1, 5);
        fault("join -1;", 1, 5);
        fault("join 1x;", 1, 6);
        fault("join 1 1;", 1, 7);
        fault("joined 1;", 1, 0);
        fault("joi 1;", 1, 0);
        fault("skyz 2 2;", 1, 0);
        fault("kind 0 0 1 1;", 1, 0);
        fault("field 0 0 7 0 0 0;", 2, 10);
        fault("Join 1;", 1, 0);
        fault("5 join;", 1, 0);
        fault("join\t1;", 1, 4);
        fault("join 1;\n", 1, 7);
        fault("join 1;hail 100", 2, 12);
        fault("sky 4", 1, 5);
        fault("sky 45;", 2, 4);
        fault("sky 2 1;", 2, 6);
        fault("sky 9 9;", 2, 4);
        fault("sky 2 9;", 2, 6);
        fault("sky 2 2;sky 2 2;", 4, 8);
        fault("join 1; sky 2 2;", 4, 8);
        fault("join 99999999999999999999999999999;", 2, 5);
        fault("join 4294967296;", 2, 5);
        fault("wind 3 0 0 0;", 2, 5);
        fault("wind 0 50 0 0;", 2, 7);
        fault("wind 0 0 3 0;", 2, 9);
        fault("wind 0 0 0 3;", 2, 11);
        fault("cloud 0 0 3 0 1;", 2, 10);
        fault("cloud 0 0 0 50 1;", 2, 12);
        fault("cloud 0 0 0 0 1000;", 2, 14);
        fault("cloud 0 5 0 0 1;", 2, 8);
        fault("sky 2 2;cloud 2 0 0 0 1;", 2, 14);
        fault("seen 0 0 0;", 2, 5);
        fault("cloud 0 0 0 0 1;seen 1 0 0;cloud 0 0 0 0 1;", 2, 21);
        fault("cloud 0 0 0 0 1;seen 0 7 0;", 2, 23);
        fault("cloud 0 0 0 0 1;seen 0 0 1000;", 2, 25);
        fault("field 0 0 0 100 0 0;", 2, 12);
        fault("field 0 0 0 0 100 0;", 2, 14);
        fault("field 0 0 0 0 0;", 1, 15);
        fault("field 1 1 0 0 0 0; field 1  1 9 0 0 0;", 2, 28);
        fault("glacier 1 1 0;glacier 1 1 0;", 2, 24);
        fault("sky 2 2;glacier 0 1 0;", 2, 18);
        fault("glacier 0 0 50;", 2, 12);
        fault("flood;", 1, 5);
        fault("rate 100;", 2, 5);
        fault("hold 0;", 2, 5);
        fault("hail 0;", 2, 5);
        fault("cloud" + (char) 233 + "0 0 0 0 1;", 1, 5);
        text("field 1 1 0 0 0 0;glacier 1 1 0;", 0, -1);
    }

    private static void limits() {
        fault("wind 0 0 1 1;".repeat(10), 3, 117);
        fault("cloud 0 0 0 0 1;".repeat(8) + " cloud x;", 3, 129);
        StringBuilder fields = new StringBuilder();
        for (int i = 0; i < 12; i++) {
            fields.append("field ").append(i % 6).append(' ').append(i / 6).append(" 0 0 0 0;");
        }
        text(fields.toString(), 0, -1);
        fault(fields + "field 0 0 0 0 0 0;", 3, 12 * 18);
        text("glacier 0 0 0;glacier 1 0 0;glacier 2 0 0;", 0, -1);
        fault("glacier 0 0 0;glacier 1 0 0;glacier 2 0 0;glacier 3 0 0;", 3, 42);
        String sixty = "join 1;".repeat(60);
        text(sixty, 0, -1);
        text(sixty + "  ", 0, -1);
        fault(sixty + "join 1;", 3, 420);
        fault(sixty + " sky 2 2;", 3, 421);
        fault(sixty + "joy;", 1, 420);
        fault(sixty + ";", 1, 420);
        text("join 1;" + " ".repeat(593), 0, -1);
    }

    private static void owners() {
        OwnedClouds x = Check.under("cloud 0 0 0 0 1;cloud 0 0 0 0 1;cloud 0 0 0 0 1;"
            + "seen 1 3 9;seen 1 2 8;seen 1 5 8;seen 1 6 9;seen 2 0 999;");
        CHECK.is("6: nobody", 7, () -> x.owner(0));
        CHECK.is("6: the first told of the least minute", 2, () -> x.owner(1));
        CHECK.is("6: at 999", 0, () -> x.owner(2));
        CHECK.is("6: no such cloud", Check.NSE, () -> x.owner(3));
        CHECK.is("6: no such cloud", Check.NSE, () -> x.owner(-1));
    }

    private static void paths() {
        OwnedClouds x = Check.under("sky 8 8;cloud 3 3 1 2 9;cloud 0 0 0 49 9;cloud 3 3 2 0 9;"
            + "wind 1 4 0 1;wind 1 2 2 2;wind 1 4 1 0;wind 1 3 2 1;wind 1 6 0 0;wind 2 0 2 1;");
        int[] due = {-1, -1, 303, 403, 402, 401, 300, -1, -1};
        for (int hour = 0; hour < due.length; hour++) {
            int asked = hour;
            CHECK.is("7: hour " + hour, due[hour], () -> x.path(0, asked));
        }
        CHECK.is("7: gone for good", -1, () -> x.path(0, 49));
        CHECK.is("7: not yet", -1, () -> x.path(1, 48));
        CHECK.is("7: first seen", 0, () -> x.path(1, 49));
        CHECK.is("7: seven across", 703, () -> x.path(2, 4));
        CHECK.is("7: no such cloud", Check.NSE, () -> x.path(3, 0));
        CHECK.is("7: no such cloud, nor hour", Check.NSE, () -> x.path(3, 50));
        CHECK.is("7: no such hour", Check.IAE, () -> x.path(0, 50));
        CHECK.is("7: no such hour", Check.IAE, () -> x.path(0, -1));
        OwnedClouds still = Check.under("cloud 5 4 0 0 1;wind 1 0 2 2;wind 0 20 2 1;");
        CHECK.is("7: without a wind it stays", 504, () -> still.path(0, 19));
        CHECK.is("7: until there is one", -1, () -> still.path(0, 20));
    }

    private static void fields() {
        OwnedClouds x = Check.under("field 5 4 6 99 98 9;field 0 1 2 3 4 5;");
        int[] first = {5, 4, 6, 99, 98, 9};
        int[] second = {0, 1, 2, 3, 4, 5};
        for (int what = 0; what < 6; what++) {
            int asked = what;
            CHECK.is("8: what " + what, first[what], () -> x.field(0, asked));
            CHECK.is("8: what " + what, second[what], () -> x.field(1, asked));
        }
        CHECK.is("8: another what", Check.IAE, () -> x.field(0, 6));
        CHECK.is("8: another what", Check.IAE, () -> x.field(0, -1));
        CHECK.is("8: no such field", Check.IOOBE, () -> x.field(2, 0));
        CHECK.is("8: no such field", Check.IOOBE, () -> x.field(-1, 9));
    }
}
