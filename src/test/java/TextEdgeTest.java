/** The edges that the document names in part 1 of its terms and in promises 1 to 8: at each, and a step beside it. */
public final class TextEdgeTest {
    private static final Check CHECK = new Check();
    private static final String CLOUD = "cloud 1 1 0 0 9;";

    public static void main(String[] args) {
        textOfSixHundred();
        sixtyClauses();
        cells();
        sizeWithout();
        skyAhead();
        windFrom();
        windHeight();
        windGoes();
        nineWinds();
        windOfOneTime();
        windWithout();
        eightClouds();
        firstSeen();
        waterOfClouds();
        seenBy();
        seenToldAhead();
        twelveFields();
        oneFieldToACell();
        fieldOf();
        lowestRow();
        glaciersOfACell();
        glacierHour();
        laws();
        lastCounts();
        digits();
        words();
        blanks();
        cantStand();
        endsTooEarly();
        noneSuch();
        secondOfACell();
        tooMany();
        skyTooLate();
        theLeast();
        theFirstFromTheLeft();
        newObject();
        twentyBytes();
        highestFirst();
        noMoreThanSixHundred();
        bytesOfTheTape();
        tapeStays();
        emptyThen();
        allGone();
        lessTen();
        allStays();
        placeOfTheFault();
        told();
        ownerOfACloud();
        whereInAnHour();
        notYetOrGone();
        fieldWhat();
        severalWrong();
        CHECK.end();
    }

    /** What sky() answers to a text, and where the FAULT is. */
    private static void text(String text, int answer, int place) {
        OwnedClouds x = new OwnedClouds();
        Check.feed(x, text);
        CHECK.is(text, answer, () -> x.sky(text.length()));
        CHECK.is(text + " place", place, x::fault);
    }

    private static void fault(String text, int kind, int place) {
        text(text, kind - 10, place);
    }

    private static void right(String text) {
        OwnedClouds x = new OwnedClouds();
        Check.feed(x, text);
        CHECK.is(text, 1, () -> x.sky(text.length()) >= 0 ? 1 : 0);
        CHECK.is(text + " place", -1, x::fault);
    }

    /** A number in a text: from least to most it can stand there, a step beside them it is none such. */
    private static void number(String ahead, String behind, int least, int most) {
        right(ahead + least + behind);
        right(ahead + (least + 1) + behind);
        right(ahead + (most - 1) + behind);
        right(ahead + most + behind);
        fault(ahead + (most + 1) + behind, 2, ahead.length());
        if (least > 0) {
            fault(ahead + (least - 1) + behind, 2, ahead.length());
        } else {
            fault(ahead + "-1" + behind, 1, ahead.length());
        }
    }

    private static void told(String text, int what, int due) {
        OwnedClouds x = Check.under(text);
        CHECK.is(text + " told " + what, due, () -> x.told(what));
    }

    private static void path(String text, String dues) {
        OwnedClouds x = Check.under(text);
        CHECK.edge(text + " hour", dues, hour -> x.path(0, hour));
    }

    private static String fields(int many) {
        StringBuilder text = new StringBuilder();
        for (int i = 0; i < many; i++) {
            text.append("field ").append(i % 6).append(' ').append(i / 6).append(" 0 0 0 0;");
        }
        return text.toString();
    }

    private static void textOfSixHundred() {
        CHECK.sentence("A SKY is a text of up to 600 bytes");
        for (int bytes = 599; bytes <= 600; bytes++) {
            OwnedClouds x = new OwnedClouds();
            int n = Check.feed(x, " ".repeat(bytes - 7) + "join 2;");
            CHECK.is(n + " bytes", 0, () -> x.sky(n));
            CHECK.is(n + " bytes are read", 2, () -> x.told(5));
        }
        OwnedClouds x = new OwnedClouds();
        Check.feed(x, " ".repeat(594) + "join 2;");
        CHECK.is("601 bytes never are", Check.IAE, () -> x.sky(601));
        CHECK.is("600 of them end too early", -9, () -> x.sky(600));
        CHECK.is("600 of them end too early, place", 600, x::fault);
    }

    private static void sixtyClauses() {
        CHECK.sentence("{ CLAUSE \";\" }, at most 60");
        text("", 0, -1);
        text("join 1;".repeat(59), 0, -1);
        text("join 1;".repeat(60), 0, -1);
        fault("join 1;".repeat(61), 3, 420);
        fault("join 1;".repeat(60) + "  join 1;", 3, 422);
        told("join 1;".repeat(59) + "join 2;", 5, 2);
        text(CLOUD + "seen 0 0 0;".repeat(53), 1, -1);
    }

    private static void cells() {
        CHECK.sentence("CELLS across, down, 2 to 8 each");
        number("sky ", " 2;", 2, 8);
        number("sky 2 ", ";", 2, 8);
        fault("sky 0 2;", 2, 4);
        fault("sky 2 0;", 2, 6);
        for (int size = 2; size <= 8; size++) {
            told("sky " + size + " 5;", 0, size);
            told("sky 5 " + size + ";", 1, size);
            right("sky " + size + " 3;cloud " + (size - 1) + " 2 0 0 1;");
            fault("sky " + size + " 3;cloud " + size + " 2 0 0 1;", 2, 14);
            right("sky 3 " + size + ";cloud 2 " + (size - 1) + " 0 0 1;");
            fault("sky 3 " + size + ";cloud 2 " + size + " 0 0 1;", 2, 16);
        }
    }

    private static void sizeWithout() {
        CHECK.sentence("6 5 without");
        told("", 0, 6);
        told("", 1, 5);
        number("cloud ", " 0 0 0 1;", 0, 5);
        number("cloud 0 ", " 0 0 1;", 0, 4);
    }

    private static void skyAhead() {
        CHECK.sentence("ahead of all others, once");
        told("sky 3 4;join 1;", 0, 3);
        told("   sky 3 4;", 1, 4);
        fault("join 1;sky 3 4;", 4, 7);
        fault("sky 3 4;sky 3 4;", 4, 8);
    }

    private static void windFrom() {
        CHECK.sentence("from HOUR T on, 0 to 49");
        number("wind 0 ", " 1 1;", 0, 49);
        path("cloud 1 1 0 0 9;wind 0 0 2 1;", "0:101 1:201 2:301");
        path("cloud 1 1 0 0 9;wind 0 1 2 1;", "0:101 1:201 2:301");
        path("cloud 1 1 0 0 9;wind 0 2 2 1;", "0:101 1:101 2:201 3:301");
        path("cloud 1 1 0 0 9;wind 0 48 2 1;", "47:101 48:201 49:301");
        path("cloud 1 1 0 0 9;wind 0 49 2 1;", "47:101 48:101 49:201");
    }

    private static void windHeight() {
        CHECK.sentence("at HEIGHT Z, 0 to 2");
        number("wind ", " 0 1 1;", 0, 2);
        number("cloud 0 0 ", " 0 1;", 0, 2);
        for (int z = 0; z < 3; z++) {
            OwnedClouds x = Check.under("cloud 1 1 0 0 1;cloud 1 1 1 0 1;cloud 1 1 2 0 1;wind " + z + " 0 2 1;");
            for (int k = 0; k < 3; k++) {
                int cloud = k;
                CHECK.is("wind at " + z + ", cloud at " + k, z == k ? 201 : 101, () -> x.path(cloud, 1));
            }
        }
    }

    private static void windGoes() {
        CHECK.sentence("clouds go I less 1 across, J less 1 down, 0 to 2 each");
        number("wind 0 0 ", " 1;", 0, 2);
        number("wind 0 0 1 ", ";", 0, 2);
        for (int i = 0; i <= 2; i++) {
            for (int j = 0; j <= 2; j++) {
                path("cloud 2 2 0 0 1;wind 0 0 " + i + " " + j + ";", "1:" + (100 * (1 + i) + 1 + j));
            }
        }
    }

    private static void nineWinds() {
        CHECK.sentence("9 at most");
        text("wind 0 0 1 1;".repeat(8), 0, -1);
        text("wind 0 0 1 1;".repeat(9), 0, -1);
        fault("wind 0 0 1 1;".repeat(10), 3, 117);
        path(CLOUD + "wind 1 0 2 1;".repeat(8) + "wind 0 0 2 1;", "1:201");
    }

    private static void windOfOneTime() {
        CHECK.sentence("of one Z and T the last counts");
        path(CLOUD + "wind 0 2 2 1;wind 0 2 1 2;", "1:101 2:102 3:103");
        path(CLOUD + "wind 0 2 2 1;wind 0 3 1 2;", "1:101 2:201 3:202 4:203");
        path(CLOUD + "wind 0 3 2 1;wind 0 2 1 2;", "1:101 2:102 3:202 4:302");
        path(CLOUD + "wind 0 2 2 1;wind 1 2 1 2;", "1:101 2:201 3:301");
        path(CLOUD + "wind 0 2 2 1;wind 0 2 1 2;wind 0 2 0 1;", "1:101 2:1 3:-1");
    }

    private static void windWithout() {
        CHECK.sentence("0, 0 without");
        path(CLOUD, "0:101 1:101 49:101");
        path(CLOUD + "wind 1 0 2 2;wind 2 0 0 0;", "0:101 1:101 49:101");
    }

    private static void eightClouds() {
        CHECK.sentence("numbered from 0 on, 8 at most");
        text(CLOUD.repeat(7), 7, -1);
        text(CLOUD.repeat(8), 8, -1);
        fault(CLOUD.repeat(9), 3, 128);
        text("", 0, -1);
        text(CLOUD, 1, -1);
        OwnedClouds x = Check.under("cloud 0 0 0 0 1;cloud 1 0 0 0 1;cloud 2 0 0 0 1;");
        CHECK.edge("cloud", "-1:NSE 0:0 1:100 2:200 3:NSE", k -> x.path(k, 0));
        OwnedClouds eight = Check.under("cloud 0 0 0 0 1;".repeat(7) + "cloud 5 4 0 0 1;");
        CHECK.edge("of eight", "6:0 7:504 8:NSE", k -> eight.path(k, 0));
    }

    private static void firstSeen() {
        CHECK.sentence("first seen at X, Y in HOUR T, 0 to 49");
        number("cloud 0 0 0 ", " 1;", 0, 49);
        path("cloud 2 3 0 0 1;", "0:203 1:203 49:203");
        path("cloud 2 3 0 1 1;", "0:-1 1:203 2:203");
        path("cloud 2 3 0 48 1;", "47:-1 48:203 49:203");
        path("cloud 2 3 0 49 1;", "0:-1 48:-1 49:203");
        for (int t : new int[] {0, 1, 48, 49}) {
            OwnedClouds x = Check.under("cloud 2 3 0 " + t + " 5;");
            CHECK.is("water in hour " + t, 5, () -> x.cloud(0, 0, t, 0));
            CHECK.is("an hour before " + t, t == 0 ? Check.IAE : "-1", Check.told(() -> x.cloud(0, 0, t - 1, 0)));
        }
    }

    private static void waterOfClouds() {
        CHECK.sentence("Q of WATER, 1 to 999");
        number("cloud 0 0 0 0 ", ";", 1, 999);
        for (int q : new int[] {1, 2, 998, 999}) {
            OwnedClouds x = Check.under("cloud 0 0 0 0 " + q + ";");
            CHECK.is("water " + q, q, () -> x.cloud(0, 0, 0, 0));
        }
    }

    private static void seenBy() {
        CHECK.sentence("\"seen\" K O M (CLOUD K by OWNER O, 0 to 6, at MINUTE M, 0 to 999)");
        number("cloud 1 1 0 0 9;seen 0 ", " 5;", 0, 6);
        number("cloud 1 1 0 0 9;seen 0 5 ", ";", 0, 999);
        for (int o = 0; o <= 6; o++) {
            OwnedClouds x = Check.under(CLOUD + "seen 0 " + o + " 999;");
            CHECK.is("owner " + o, o, () -> x.owner(0));
        }
        minutes(0, 1);
        minutes(1, 2);
        minutes(998, 999);
    }

    private static void minutes(int lesser, int more) {
        OwnedClouds first = Check.under(CLOUD + "seen 0 3 " + lesser + ";seen 0 2 " + more + ";");
        CHECK.is("the first at " + lesser, 3, () -> first.owner(0));
        OwnedClouds second = Check.under(CLOUD + "seen 0 3 " + more + ";seen 0 2 " + lesser + ";");
        CHECK.is("the second at " + lesser, 2, () -> second.owner(0));
    }

    private static void seenToldAhead() {
        CHECK.sentence("K: told ahead");
        fault("seen 0 1 1;", 2, 5);
        fault("seen 0 1 1;" + CLOUD, 2, 5);
        right(CLOUD + "seen 0 1 1;");
        fault(CLOUD + "seen 1 1 1;", 2, 21);
        fault(CLOUD + "seen 1 1 1;" + CLOUD, 2, 21);
        right(CLOUD + CLOUD + "seen 1 1 1;");
        right(CLOUD.repeat(8) + "seen 7 1 1;");
        fault(CLOUD.repeat(8) + "seen 8 1 1;", 2, 133);
    }

    private static void twelveFields() {
        CHECK.sentence("FIELDS likewise, 12, one to a CELL");
        for (int many = 0; many <= 12; many++) {
            told(fields(many), 3, many);
        }
        fault(fields(12) + "field 0 2 0 0 0 0;", 3, 216);
        fault(fields(12) + "field 0 0 0 0 0 0;", 3, 216);
        OwnedClouds x = Check.under(fields(12));
        CHECK.edge("X of field", "-1:IOOBE 0:0 1:1 5:5 6:0 11:5 12:IOOBE", f -> x.field(f, 0));
        CHECK.edge("Y of field", "-1:IOOBE 0:0 1:0 5:0 6:1 11:1 12:IOOBE", f -> x.field(f, 1));
    }

    private static void oneFieldToACell() {
        CHECK.sentence("one to a CELL: of FARMER F");
        number("field ", " 0 0 0 0 0;", 0, 5);
        number("field 0 ", " 0 0 0 0;", 0, 4);
        fault("field 1 2 0 0 0 0;field 1 2 0 0 0 0;", 2, 26);
        text("field 1 2 0 0 0 0;field 2 2 0 0 0 0;field 0 2 0 0 0 0;", 0, -1);
        text("field 1 2 0 0 0 0;field 1 1 0 0 0 0;field 1 3 0 0 0 0;field 2 1 0 0 0 0;", 0, -1);
    }

    private static void fieldOf() {
        CHECK.sentence("of FARMER F, 0 to 6; thirst N, 0 to 99; its harvest is worth V, 0 to 99; it pays P, 0 to 9, for each of WATER");
        number("field 0 0 ", " 0 0 0;", 0, 6);
        number("field 0 0 0 ", " 0 0;", 0, 99);
        number("field 0 0 0 0 ", " 0;", 0, 99);
        number("field 0 0 0 0 0 ", ";", 0, 9);
        OwnedClouds most = Check.under("field 5 4 6 99 99 9;");
        CHECK.edge("most", "0:5 1:4 2:6 3:99 4:99 5:9", what -> most.field(0, what));
        OwnedClouds least = Check.under("field 0 0 0 0 0 0;");
        CHECK.edge("least", "0:0 1:0 2:0 3:0 4:0 5:0", what -> least.field(0, what));
    }

    private static void lowestRow() {
        CHECK.sentence("\"glacier\" X Y T (not in the lowest row");
        number("glacier ", " 0 0;", 0, 5);
        number("glacier 0 ", " 0;", 0, 3);
        for (int h = 2; h <= 8; h++) {
            right("sky 2 " + h + ";glacier 1 " + (h - 2) + " 0;");
            fault("sky 2 " + h + ";glacier 1 " + (h - 1) + " 0;", 2, 18);
            fault("sky 2 " + h + ";glacier 1 " + h + " 0;", 2, 18);
        }
    }

    private static void glaciersOfACell() {
        CHECK.sentence("one to a CELL, 3 at most");
        fault("glacier 1 1 0;glacier 1 1 1;", 2, 24);
        told("glacier 1 1 0;glacier 2 1 0;glacier 1 2 0;", 4, 3);
        told("glacier 1 1 0;glacier 0 1 0;", 4, 2);
        told("", 4, 0);
        fault("glacier 1 1 0;glacier 2 1 0;glacier 1 2 0;glacier 2 2 0;", 3, 42);
        fault("glacier 1 1 0;glacier 2 1 0;glacier 1 2 0;glacier 1 1 0;", 3, 42);
        told("glacier 1 1 0;field 1 1 0 0 0 0;", 3, 1);
    }

    private static void glacierHour() {
        CHECK.sentence("3 at most: T 0 to 49)");
        number("glacier 0 0 ", ";", 0, 49);
    }

    private static void laws() {
        CHECK.sentence("\"join\" J (0 to 2; 0)");
        fact("join", 0, 2, 5, 0);
        CHECK.sentence("\"rate\" R (1 to 99; 20)");
        fact("rate", 1, 99, 6, 20);
        CHECK.sentence("\"hold\" C (1 to 999; 999)");
        fact("hold", 1, 999, 7, 999);
        CHECK.sentence("\"hail\" H (1 to 99; 50)");
        fact("hail", 1, 99, 8, 50);
        CHECK.sentence("\"flood\" D (0 to 9; 1)");
        fact("flood", 0, 9, 9, 1);
    }

    private static void fact(String word, int least, int most, int what, int without) {
        number(word + " ", ";", least, most);
        told("", what, without);
        for (int n : new int[] {least, least + 1, most - 1, most}) {
            told(word + " " + n + ";", what, n);
        }
    }

    private static void lastCounts() {
        CHECK.sentence("Of join and the words behind it the last counts");
        told("join 1;join 2;", 5, 2);
        told("join 2;join 1;join 0;", 5, 0);
        told("rate 1;rate 99;", 6, 99);
        told("rate 99;rate 1;", 6, 1);
        told("hold 1;hold 999;", 7, 999);
        told("hold 999;hold 1;", 7, 1);
        told("hail 1;hail 99;", 8, 99);
        told("hail 99;hail 1;", 8, 1);
        told("flood 0;flood 9;", 9, 9);
        told("flood 9;flood 0;", 9, 0);
    }

    private static void digits() {
        CHECK.sentence("Numbers: digits, as many as stand there");
        told("join 2;", 5, 2);
        told("join 02;", 5, 2);
        told("join " + "0".repeat(593) + "2;", 5, 2);
        told("hold 0000000999;", 7, 999);
        fault("join 20;", 2, 5);
        fault("join 2 0;", 1, 7);
        fault("join /;", 1, 5);
        fault("join :;", 1, 5);
        told("join 0;", 5, 0);
        told("hail 9;", 8, 9);
        fault("join 2/;", 1, 6);
        fault("join 2:;", 1, 6);
        // what would be right if it wrapped at 32 or 64 bits
        fault("join 2147483648;", 2, 5);
        fault("join 4294967295;", 2, 5);
        fault("join 4294967296;", 2, 5);
        fault("join 4294967297;", 2, 5);
        fault("join 18446744073709551616;", 2, 5);
        fault("join 18446744073709551617;", 2, 5);
        fault("hold " + "9".repeat(594) + ";", 2, 5);
        fault("join 1" + "0".repeat(593) + ";", 2, 5);
        fault("join " + "9".repeat(595), 2, 5);
        fault("join 3x", 2, 5);
        fault("join 2x", 1, 6);
    }

    private static void words() {
        CHECK.sentence("WORDS: small letters, as many as stand there");
        for (String word : new String[] {"sky", "wind", "cloud", "seen", "field", "glacier", "join", "rate", "hold", "hail", "flood"}) {
            fault(word.substring(0, word.length() - 1) + " 1;", 1, 0);
            fault(word + "s 1;", 1, 0);
            fault(word.substring(1) + " 1;", 1, 0);
            fault("a" + word + " 1;", 1, 0);
            fault("a" + word.substring(1) + " 1;", 1, 0);
            fault(word.substring(0, word.length() - 1) + "z 1;", 1, 0);
            fault(word + word + " 1;", 1, 0);
            fault(word + ";", 1, word.length());
        }
        told("join1;", 5, 1);
        fault("join`1;", 1, 4);
        fault("join{1;", 1, 4);
        fault("`join 1;", 1, 0);
        fault("{join 1;", 1, 0);
        fault("joina1;", 1, 0);
        fault("joinz1;", 1, 0);
        fault("Join 1;", 1, 0);
        fault("joiN 1;", 1, 0);
        fault("jo in 1;", 1, 0);
        fault("joinS 1;", 1, 4);
        fault("a;", 1, 0);
        fault("z;", 1, 0);
    }

    private static void blanks() {
        CHECK.sentence("blanks (32) may stand ahead of all these, and at the end");
        text(CLOUD, 1, -1);
        text(" cloud 1 1 0 0 9;", 1, -1);
        text("cloud1 1 0 0 9;", 1, -1);
        text("cloud  1  1  0  0  9;", 1, -1);
        text("cloud 1 1 0 0 9 ;", 1, -1);
        text("cloud 1 1 0 0 9  ;", 1, -1);
        text(CLOUD + " ", 1, -1);
        text(CLOUD + "  ", 1, -1);
        text(CLOUD + CLOUD, 2, -1);
        text(CLOUD + "  " + CLOUD, 2, -1);
        text(" ", 0, -1);
        for (int other : new int[] {0, 9, 10, 13, 31, 33, 160, 255}) {
            char sign = (char) other;
            fault(sign + CLOUD, 1, 0);
            fault("cloud" + sign + "1 1 0 0 9;", 1, 5);
            fault("cloud 1" + sign + "1 0 0 9;", 1, 7);
            fault("cloud 1 1 0 0 9" + sign + ";", 1, 15);
            fault(CLOUD + sign, 1, 16);
        }
    }

    private static void cantStand() {
        CHECK.sentence("1 what can't stand there");
        fault(";", 1, 0);
        fault("7;", 1, 0);
        fault("rain 7;", 1, 0);
        fault("join;", 1, 4);
        fault("join 1 1;", 1, 7);
        fault("join 1;;", 1, 7);
        fault("join 1 join 1;", 1, 7);
        fault("cloud 1 1 0 0;", 1, 13);
        fault("cloud 1 1 0 0 9 9;", 1, 16);
        fault("cloud 1 1 0 x 9;", 1, 12);
        fault("cloud 1 1 0 0 9.", 1, 15);
    }

    private static void endsTooEarly() {
        CHECK.sentence("at the length, if the text ends too early");
        String whole = "cloud 1 1 0 0 12 ;";
        for (int n = 5; n < whole.length(); n++) {
            fault(whole.substring(0, n), 1, n);
            cut(whole, n, -9, n);
        }
        text(whole, 1, -1);
        cut(whole + " ", whole.length(), 1, -1);
        cut(whole + "x", whole.length(), 1, -1);
        cut(whole + "x", whole.length() + 1, -9, whole.length());
        fault("join 1;rate 5", 1, 13);
        fault("join 1;rate", 1, 11);
        fault("sky 8 ", 1, 6);
        fault("join 1;" + " ".repeat(588) + "hail ", 1, 600);
        // a word that is cut stands there whole: it is what can't stand there
        for (int n = 1; n < 5; n++) {
            fault(whole.substring(0, n), 1, 0);
            cut(whole, n, -9, 0);
        }
        fault("join 1;rat", 1, 7);
        cut("joins 1;", 4, -9, 4);
        cut("joins 1;", 5, -9, 0);
        cut("join 10;", 6, -9, 6);
        cut("join 10;", 7, -8, 5);
    }

    /** The first n bytes of a text that goes on behind them. */
    private static void cut(String text, int n, int answer, int place) {
        OwnedClouds x = new OwnedClouds();
        Check.feed(x, text);
        CHECK.is(n + " of " + text, answer, () -> x.sky(n));
        CHECK.is(n + " of " + text + " place", place, x::fault);
    }

    private static void noneSuch() {
        CHECK.sentence("2 a number that is none such");
        fault("rate 0;", 2, 5);
        fault("rate   100;", 2, 7);
        fault("rate 00100;", 2, 5);
        fault("rate 100 ;", 2, 5);
        fault("rate 100", 2, 5);
        right("rate 099;");
        fault("wind 3 50 3 3;", 2, 5);
        fault("wind 2 50 3 3;", 2, 7);
        fault("wind 2 49 3 3;", 2, 10);
        fault("wind 2 49 2 3;", 2, 12);
        right("wind 2 49 2 2;");
    }

    private static void secondOfACell() {
        CHECK.sentence("of a second FIELD, glacier of a CELL: at Y");
        fault("field 3 2 1 1 1 1;field 3 2 1 1 1 1;", 2, 26);
        fault("field 3 2 1 1 1 1;field  3   02 7 1 1 1;", 2, 29);
        fault("field 3 2 1 1 1 1;field 3 2", 2, 26);
        fault("field 3 2 1 1 1 1;field 6 2 1 1 1 1;", 2, 24);
        fault("field 3 2 1 1 1 1;field 3 5 1 1 1 1;", 2, 26);
        right("field 3 2 1 1 1 1;field 3 3 1 1 1 1;");
        right("field 3 2 1 1 1 1;field 2 2 1 1 1 1;");
        right("field 3 2 1 1 1 1;field 2 3 1 1 1 1;");
        fault("glacier 3 2 1;glacier 3 2 1;", 2, 24);
        fault("glacier 3 2 1;glacier 3  2 50;", 2, 25);
        right("glacier 3 2 1;glacier 3 3 1;");
        right("glacier 3 2 1;glacier 2 2 1;");
        right("glacier 3 2 1;field 3 2 1 1 1 1;");
        fault("field 1 1 0 0 0 0;field 3 2 1 1 1 1;field 3 2 1 1 1 1;", 2, 44);
    }

    private static void tooMany() {
        CHECK.sentence("3 a CLAUSE, wind, CLOUD, FIELD or glacier too many (at its word)");
        String sixty = "join 1;".repeat(60);
        text(sixty, 0, -1);
        fault(sixty + " hail 100;", 3, 421);
        fault(sixty + "hail", 3, 420);
        text("wind 0 0 1 1;".repeat(9), 0, -1);
        fault("wind 0 0 1 1;".repeat(9) + " wind 3 0 1 1;", 3, 118);
        fault("wind 0 0 1 1;".repeat(9) + "wind", 3, 117);
        fault("wind 0 0 1 1;".repeat(9) + "winds", 1, 117);
        text(CLOUD.repeat(8), 8, -1);
        fault(CLOUD.repeat(8) + " cloud 9 9 9 9 9;", 3, 129);
        fault(CLOUD.repeat(8) + "cloud", 3, 128);
        fault(fields(12) + " field 9 9 9 9 9 9;", 3, 217);
        fault(fields(12) + "field", 3, 216);
        String three = "glacier 0 0 0;glacier 1 0 0;glacier 2 0 0;";
        fault(three + " glacier 9 9 9;", 3, 43);
        fault(three + "glacier", 3, 42);
        right(fields(12) + three + CLOUD.repeat(8) + "wind 0 0 1 1;".repeat(7));
    }

    private static void skyTooLate() {
        CHECK.sentence("4 sky too late, or again (at the word)");
        fault("join 1;sky 2 2;", 4, 7);
        fault("join 1;  sky 2 2;", 4, 9);
        fault("sky 2 2;sky 2 2;", 4, 8);
        fault("sky 2 2;join 1;sky 2 2;", 4, 15);
        fault("join 1;sky", 4, 7);
        fault("join 1;sky 9 9;", 4, 7);
        fault("join 1;skys", 1, 7);
        fault("sky 2 9;sky 2 2;", 2, 6);
    }

    private static void theLeast() {
        CHECK.sentence("of one the least");
        String sixty = "join 1;".repeat(60);
        fault(sixty + "sky 2 2;", 3, 420);
        fault("join 1;".repeat(59) + "sky 2 2;", 4, 413);
        fault(sixty + "skies 2 2;", 1, 420);
        fault(sixty + ";", 1, 420);
        fault(sixty + "9", 1, 420);
    }

    private static void theFirstFromTheLeft() {
        CHECK.sentence("FAULTS, the first from the left, at its first byte");
        fault("rate 100;sky 2 2;;", 2, 5);
        fault("rate 99;sky 2 2;;", 4, 8);
        fault("rate 99;join 2;;", 1, 15);
        fault("rate x;rate 100;", 1, 5);
        fault("field 6 5 7 100 100 10;", 2, 6);
        fault("field 5 5 7 100 100 10;", 2, 8);
        fault("field 5 4 7 100 100 10;", 2, 10);
        fault("field 5 4 6 100 100 10;", 2, 12);
        fault("field 5 4 6 99 100 10;", 2, 15);
        fault("field 5 4 6 99 99 10;", 2, 18);
        fault("cloud 5 4 2 49 1000 1;", 2, 15);
        fault("seen 0 7 1000;", 2, 5);
        fault(CLOUD + "seen 0 7 1000;", 2, 23);
        fault(CLOUD + "seen 0 6 1000;", 2, 25);
    }

    private static void newObject() {
        CHECK.sentence("`OwnedClouds()`: A SKY without CLAUSES.");
        OwnedClouds x = new OwnedClouds();
        OwnedClouds read = Check.under("");
        CHECK.edge("told", "-1:IAE 0:6 1:5 2:0 3:0 4:0 5:0 6:20 7:999 8:50 9:1 10:IAE", x::told);
        CHECK.edge("told of no bytes", "-1:IAE 0:6 1:5 2:0 3:0 4:0 5:0 6:20 7:999 8:50 9:1 10:IAE", read::told);
        CHECK.edge("count", "-1:-1 0:0 1:0 2:0 3:0 4:0 5:-1", x::count);
        CHECK.edge("owner", "-1:NSE 0:NSE", x::owner);
        CHECK.edge("path", "-1:NSE 0:NSE", k -> x.path(k, 0));
        CHECK.edge("field", "-1:IOOBE 0:IOOBE", f -> x.field(f, 0));
        CHECK.edge("worth", "-1:IAE 0:0 1:IAE", x::worth);
        CHECK.edge("day", "-1:IAE 0:0 1:0 2:0 3:0 4:0 5:0 6:0 7:0 8:IAE", what -> x.day(-1, what));
        CHECK.is("fault", -1, x::fault);
        CHECK.is("sky(0)", 0, () -> x.sky(0));
    }

    private static void twentyBytes() {
        CHECK.sentence("Twenty bytes come on the TAPE");
        OwnedClouds x = new OwnedClouds();
        CHECK.edge("feed", "1:20 2:40 3:60", i -> x.feed(0, i, 0, i, 0));
        CHECK.is("count", 60, () -> x.count(4));
        OwnedClouds each = new OwnedClouds();
        Check.feed(each, "join2;rate3;hail4;  flood5;");
        CHECK.is("all five numbers, in their order", 0, () -> each.sky(40 - 13));
        CHECK.edge("told", "5:2 6:3 8:4 9:5", each::told);
    }

    private static void highestFirst() {
        CHECK.sentence("of each number the highest first");
        OwnedClouds x = new OwnedClouds();
        x.feed(0x6a6f696e, 0x20323b20, 0x20202020, 0x20202020, 0x20202020);
        CHECK.is("read", 0, () -> x.sky(20));
        CHECK.is("join 2", 2, () -> x.told(5));
        // a byte above 127 is no small letter, in none of the four places
        for (int i = 0; i < 4; i++) {
            OwnedClouds wrong = new OwnedClouds();
            int place = i;
            wrong.feed(0x6a6f696e ^ 0x80 << 24 - 8 * i, 0x20323b20, 0x20202020, 0x20202020, 0x20202020);
            CHECK.is("byte " + i + " above 127", -9, () -> wrong.sky(20));
            CHECK.is("place, byte " + i + ": the word's first", 0, wrong::fault);
            OwnedClouds number = new OwnedClouds();
            number.feed(0x6a6f696e, 0x30303030 ^ 0x80 << 24 - 8 * i, 0x3b202020, 0x20202020, 0x20202020);
            CHECK.is("digit " + i + " above 127", -9, () -> number.sky(20));
            CHECK.is("place, digit " + i, 4 + place, number::fault);
        }
    }

    private static void noMoreThanSixHundred() {
        CHECK.sentence("NONE, doing nothing, if there would be more than 600");
        OwnedClouds x = new OwnedClouds();
        for (int bytes = 20; bytes <= 600; bytes += 20) {
            int due = bytes;
            CHECK.is("feed", due, () -> x.feed(0x20202020, 0x20202020, 0x20202020, 0x20202020, 0x20202020));
        }
        CHECK.is("one more", -1, () -> x.feed(0x6a6f696e, 0x20323b20, 0, 0, 0));
        CHECK.is("and one more", -1, () -> x.feed(-1, -1, -1, -1, -1));
        CHECK.is("nothing is done", 600, () -> x.count(4));
        CHECK.is("nor to the bytes there", 0, () -> x.sky(600));
        CHECK.is("nothing is told", 0, () -> x.told(5));
        CHECK.is("and again from none", 20, () -> x.feed(0, 0, 0, 0, 0));
    }

    private static void bytesOfTheTape() {
        CHECK.sentence("IllegalArgumentException: n is not 0 to the TAPE's bytes");
        int[][] cases = {{-1, 20}, {21, 20}, {Integer.MIN_VALUE, 20}, {Integer.MAX_VALUE, 20}, {1, 0}, {-1, 0}, {600, 580}, {601, 600}};
        for (int[] one : cases) {
            OwnedClouds x = blank(one[1]);
            CHECK.is(one[0] + " of " + one[1], Check.IAE, () -> x.sky(one[0]));
        }
        int[][] rights = {{0, 0}, {0, 20}, {1, 20}, {19, 20}, {20, 20}, {599, 600}, {600, 600}};
        for (int[] one : rights) {
            OwnedClouds x = blank(one[1]);
            CHECK.is(one[0] + " of " + one[1], 0, () -> x.sky(one[0]));
        }
    }

    private static OwnedClouds blank(int bytes) {
        OwnedClouds x = new OwnedClouds();
        Check.feed(x, " ".repeat(bytes));
        return x;
    }

    private static void tapeStays() {
        CHECK.sentence("(it stays)");
        OwnedClouds x = Check.under("sky 3 3;");
        x.image();
        Check.feed(x, "join 1;             ");
        CHECK.edge("sky", "-1:IAE 21:IAE", x::sky);
        CHECK.is("bytes", 20, () -> x.count(4));
        CHECK.is("the sky", 3, () -> x.told(0));
        CHECK.is("the image", 1, () -> x.count(3));
        CHECK.is("read then", 0, () -> x.sky(20));
        CHECK.is("the same bytes", 1, () -> x.told(5));
    }

    private static void emptyThen() {
        CHECK.sentence("The first n bytes of the TAPE (empty then) are the SKY");
        OwnedClouds x = new OwnedClouds();
        Check.feed(x, "join 1;join 2;      ");
        CHECK.is("seven", 0, () -> x.sky(7));
        CHECK.is("no more are read", 1, () -> x.told(5));
        CHECK.is("nothing is left", 0, () -> x.count(4));
        CHECK.is("of none there is no first", Check.IAE, () -> x.sky(1));
        Check.feed(x, "join 1;join 2;      ");
        CHECK.is("fourteen", 0, () -> x.sky(14));
        CHECK.is("both are read", 2, () -> x.told(5));
        Check.feed(x, "join 1;x            ");
        CHECK.is("a fault", -9, () -> x.sky(8));
        CHECK.is("empty by a fault too", 0, () -> x.count(4));
        Check.feed(x, "join 1;             ");
        CHECK.is("none of them", 0, () -> x.sky(0));
        CHECK.is("empty by none too", 0, () -> x.count(4));
        CHECK.is("and nothing is told", 0, () -> x.told(5));
    }

    private static OwnedClouds used() {
        OwnedClouds x = Check.under("sky 4 4;cloud 1 1 0 0 9;seen 0 3 3;wind 0 0 2 1;field 1 1 2 3 4 5;"
            + "glacier 0 0 5;join 2;rate 7;hold 8;hail 9;flood 3;");
        x.order(0, 0, 0, 1);
        x.bid(1, 1, 1);
        x.gauge(0, 0, 0);
        x.image();
        return x;
    }

    private static void allGone() {
        CHECK.sentence("(ORDERS, BIDS, GAUGES, IMAGES gone): how many CLOUDS");
        OwnedClouds x = used();
        CHECK.edge("count ahead", "0:1 1:1 2:1 3:1", x::count);
        CHECK.is("two clouds", 2, () -> x.sky(Check.feed(x, CLOUD + CLOUD)));
        CHECK.edge("count", "0:0 1:0 2:0 3:0 4:0", x::count);
        CHECK.is("no image", -1, x::restore);
        CHECK.is("no bid", Check.IOOBE, () -> x.gets(1, 0));
        CHECK.is("no order falls of both joined", 18, () -> x.cloud(0, 0, 49, 0));
        CHECK.is("a gauge is free", 1, () -> x.gauge(0, 0, 0));
        CHECK.edge("told", "0:6 1:5 2:2 3:0 4:0 5:0 6:20 7:999 8:50 9:1", x::told);
        CHECK.is("nobody's", 7, () -> x.owner(0));
        CHECK.is("no wind", 101, () -> x.path(0, 49));
        OwnedClouds none = used();
        CHECK.is("no bytes", 0, () -> none.sky(0));
        CHECK.edge("count", "0:0 1:0 2:0 3:0 4:0", none::count);
        CHECK.edge("told", "0:6 1:5 2:0 3:0 4:0 5:0 6:20 7:999 8:50 9:1", none::told);
    }

    private static void lessTen() {
        CHECK.sentence("or the FAULT less 10");
        text(";", -9, 0);
        text("join 3;", -8, 5);
        text("wind 0 0 1 1;".repeat(10), -7, 117);
        text("join 1;sky 2 2;", -6, 7);
        text("join 1;", 0, -1);
    }

    private static void allStays() {
        CHECK.sentence("(all but the TAPE stays)");
        for (String wrong : new String[] {"sky 9 2;", "cloud 0 0 0 0 1;;", "join 3", "sky 2 2;sky 2 2;", CLOUD.repeat(9),
            "sky 2 2;cloud 0 0 0 0 5;seen 0 1 1;rate"}) {
            OwnedClouds x = used();
            CHECK.is("a fault", 1, () -> x.sky(Check.feed(x, wrong)) < 0 ? 1 : 0);
            CHECK.edge("count", "0:1 1:1 2:1 3:1 4:0", x::count);
            CHECK.edge("told", "0:4 1:4 2:1 3:1 4:1 5:2 6:7 7:8 8:9 9:3", x::told);
            CHECK.edge("field", "0:1 1:1 2:2 3:3 4:4 5:5", what -> x.field(0, what));
            CHECK.is("owner", 3, () -> x.owner(0));
            CHECK.edge("path", "0:101 1:201 2:301 3:-1", hour -> x.path(0, hour));
            CHECK.edge("water", "0:7 2:7 3:-1", hour -> x.cloud(0, 0, hour, 0));
            CHECK.is("the image", 0, x::restore);
        }
    }

    private static void placeOfTheFault() {
        CHECK.sentence("The place of the FAULT of the latest sky(); NONE without.");
        OwnedClouds x = new OwnedClouds();
        CHECK.is("no sky yet", -1, x::fault);
        x.sky(Check.feed(x, ";"));
        CHECK.is("at the first byte", 0, x::fault);
        x.sky(Check.feed(x, "join 3;"));
        CHECK.is("at another", 5, x::fault);
        x.sky(Check.feed(x, "join 2;"));
        CHECK.is("none any more", -1, x::fault);
        x.sky(Check.feed(x, " ".repeat(599) + "1"));
        CHECK.is("at the last byte", 599, x::fault);
        x.sky(Check.feed(x, " ".repeat(596) + "join"));
        CHECK.is("at the length", 600, x::fault);
        x.sky(0);
        CHECK.is("none of no bytes", -1, x::fault);
    }

    private static void told() {
        CHECK.sentence("0 W, 1 H, 2 CLOUDS, 3 FIELDS, 4 glaciers, 5 J, 6 R, 7 C, 8 hail, 9 D. IllegalArgumentException: another what (so below).");
        OwnedClouds x = Check.under("sky 7 3;" + CLOUD.repeat(4) + "field 0 0 0 0 0 0;field 1 0 0 0 0 0;"
            + "glacier 0 0 0;join 2;rate 11;hold 12;hail 13;flood 8;");
        CHECK.edge("told", "-1:IAE 0:7 1:3 2:4 3:2 4:1 5:2 6:11 7:12 8:13 9:8 10:IAE", x::told);
        CHECK.is("the least number", Check.IAE, () -> x.told(Integer.MIN_VALUE));
        CHECK.is("the most", Check.IAE, () -> x.told(Integer.MAX_VALUE));
    }

    private static void ownerOfACloud() {
        CHECK.sentence("The OWNER of a CLOUD as it is first seen (7: nobody). NoSuchElementException: no such CLOUD (so below).");
        OwnedClouds x = Check.under(CLOUD.repeat(3) + "seen 0 6 999;seen 2 0 0;");
        CHECK.edge("owner", "-1:NSE 0:6 1:7 2:0 3:NSE 8:NSE", x::owner);
        CHECK.is("the least number", Check.NSE, () -> x.owner(Integer.MIN_VALUE));
        CHECK.is("the most", Check.NSE, () -> x.owner(Integer.MAX_VALUE));
        CHECK.is("all join, and are his who saw one first", 0, () -> x.cloud(0, 0, 0, 1));
        CHECK.is("but as it is first seen", 6, () -> x.owner(0));
    }

    private static void whereInAnHour() {
        CHECK.sentence("Where a CLOUD alone is in an HOUR (0 to 49): 100 times X, and Y");
        path("sky 8 8;cloud 0 0 0 0 1;", "-1:IAE 0:0 49:0 50:IAE");
        path("sky 8 8;cloud 7 0 0 0 1;", "-1:IAE 0:700 49:700 50:IAE");
        path("sky 8 8;cloud 0 7 0 0 1;", "-1:IAE 0:7 49:7 50:IAE");
        path("sky 8 8;cloud 7 7 0 0 1;", "-1:IAE 0:707 49:707 50:IAE");
        path("cloud 1 1 0 0 1;", "-2147483648:IAE 2147483647:IAE");
        OwnedClouds x = Check.under("cloud 1 1 0 0 1;cloud 1 1 0 0 1;");
        CHECK.is("alone, though it joined", 101, () -> x.path(1, 5));
    }

    private static void notYetOrGone() {
        CHECK.sentence("NONE: not yet, or GONE");
        path("sky 3 3;cloud 1 1 0 7 1;wind 0 0 2 1;", "6:-1 7:101 8:201 9:-1 10:-1 49:-1");
        path("sky 3 3;cloud 1 1 0 7 1;wind 0 0 0 1;", "6:-1 7:101 8:1 9:-1 49:-1");
        path("sky 3 3;cloud 1 1 0 7 1;wind 0 0 1 2;", "6:-1 7:101 8:102 9:-1 49:-1");
        path("sky 3 3;cloud 1 1 0 7 1;wind 0 0 1 0;", "6:-1 7:101 8:100 9:-1 49:-1");
        path("sky 3 3;cloud 1 1 0 7 1;wind 0 0 2 2;", "6:-1 7:101 8:202 9:-1 49:-1");
        path("sky 3 3;cloud 2 1 0 7 1;wind 0 8 2 1;wind 0 9 0 1;", "7:201 8:-1 9:-1 10:-1");
        path("sky 8 8;cloud 7 7 0 7 1;wind 0 8 2 1;wind 0 9 0 1;", "7:707 8:-1 9:-1 10:-1");
        path("sky 8 8;cloud 7 7 0 7 1;wind 0 8 1 2;wind 0 9 1 0;", "7:707 8:-1 9:-1 10:-1");
        path("sky 8 8;cloud 0 0 0 7 1;wind 0 8 0 1;wind 0 9 2 1;", "7:0 8:-1 9:-1 10:-1");
        path("sky 8 8;cloud 0 0 0 7 1;wind 0 8 1 0;wind 0 9 1 2;", "7:0 8:-1 9:-1 10:-1");
        path("sky 3 3;cloud 2 2 0 48 1;wind 0 49 2 1;", "47:-1 48:202 49:-1");
    }

    private static void fieldWhat() {
        CHECK.sentence("0 X, 1 Y, 2 F, 3 N, 4 V, 5 P. IndexOutOfBoundsException: no such FIELD (so below).");
        OwnedClouds x = Check.under("field 1 2 3 4 5 6;field 5 4 3 2 1 0;");
        CHECK.edge("first", "-1:IAE 0:1 1:2 2:3 3:4 4:5 5:6 6:IAE", what -> x.field(0, what));
        CHECK.edge("second", "-1:IAE 0:5 1:4 2:3 3:2 4:1 5:0 6:IAE", what -> x.field(1, what));
        CHECK.edge("field", "-2147483648:IOOBE -1:IOOBE 0:1 1:5 2:IOOBE 12:IOOBE 2147483647:IOOBE", f -> x.field(f, 0));
    }

    private static void severalWrong() {
        CHECK.sentence("public int path(int cloud, int hour) throws NoSuchElementException, IllegalArgumentException;");
        OwnedClouds x = Check.under("cloud 1 1 0 0 1;field 0 0 0 0 0 0;");
        CHECK.is("both wrong", Check.NSE, () -> x.path(1, 50));
        CHECK.is("the hour", Check.IAE, () -> x.path(0, 50));
        CHECK.is("the cloud", Check.NSE, () -> x.path(1, 49));
        CHECK.sentence("public int field(int field, int what) throws IndexOutOfBoundsException, IllegalArgumentException;");
        CHECK.is("both wrong", Check.IOOBE, () -> x.field(1, 6));
        CHECK.is("the what", Check.IAE, () -> x.field(0, 6));
        CHECK.is("the field", Check.IOOBE, () -> x.field(1, 5));
    }
}
