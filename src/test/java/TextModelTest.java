import java.math.BigInteger;
import java.util.ArrayList;
import java.util.List;
import java.util.regex.Matcher;
import java.util.regex.Pattern;

/** Promises 3 to 8 on texts made and spoilt by a counted rule: a second reader says what is due. */
public final class TextModelTest {
    private static final Check CHECK = new Check();
    private static final int OBJECTS = 2500;
    private static final int TEXTS = 6;
    private static final String SIGNS = " ;;0123456789abcdefghijklmnoprstuvwxyz-.A\n\u0000\u00ff";
    private static final Pattern TOKEN = Pattern.compile(" *([a-z]+|[0-9]+|[^ ]|$)", Pattern.DOTALL);

    /** A word and the ranges of its numbers; x, y, k and l are the last column, row, CLOUD, row but the lowest. */
    private enum Word {
        sky("2 8 2 8", 60), wind("0 2 0 49 0 2 0 2", 9), cloud("0 x 0 y 0 2 0 49 1 999", 8), seen("0 k 0 6 0 999", 60),
        field("0 x 0 y 0 6 0 99 0 99 0 9", 12), glacier("0 x 0 l 0 49", 3), join("0 2", 60), rate("1 99", 60),
        hold("1 999", 60), hail("1 99", 60), flood("0 9", 60);

        private final String[] ranges;
        private final int most;

        Word(String ranges, int most) {
            this.ranges = ranges.split(" ");
            this.most = most;
        }
    }

    private record Token(String text, int place) { }

    private record Clause(Word word, int[] numbers) { }

    private record Fault(int kind, int place) { }

    /** The document's text, read by tokens; reading ends with the first FAULT. */
    private static final class Reader {
        private final List<Token> tokens = new ArrayList<>();
        private final List<Clause> clauses = new ArrayList<>();
        private Fault fault;
        private int next;

        Reader(String text) {
            Matcher found = TOKEN.matcher(text);
            while (found.find()) {
                tokens.add(new Token(found.group(1), found.start(1)));
            }
            while (fault == null && !token().text.isEmpty()) {
                clause();
            }
        }

        private Token token() {
            return tokens.get(next);
        }

        private void fail(int kind) {
            fault = new Fault(kind, token().place);
        }

        private void clause() {
            Word word = wordOf(token().text);
            if (word == null) {
                fail(1);
            } else if (clauses.size() == 60 || all(word).size() == word.most) {
                fail(3);
            } else if (word == Word.sky && !clauses.isEmpty()) {
                fail(4);
            } else {
                next++;
                numbers(word);
            }
        }

        private static Word wordOf(String text) {
            for (Word word : Word.values()) {
                if (word.name().equals(text)) {
                    return word;
                }
            }
            return null;
        }

        private void numbers(Word word) {
            int[] numbers = new int[word.ranges.length / 2];
            for (int i = 0; i < numbers.length; i++) {
                if (!token().text.matches("[0-9]+")) {
                    fail(1);
                    return;
                }
                BigInteger number = new BigInteger(token().text);
                boolean least = number.compareTo(BigInteger.valueOf(bound(word.ranges[2 * i]))) >= 0;
                boolean most = number.compareTo(BigInteger.valueOf(bound(word.ranges[2 * i + 1]))) <= 0;
                if (!least || !most) {
                    fail(2);
                    return;
                }
                numbers[i] = number.intValue();
                if (i == 1 && (word == Word.field || word == Word.glacier) && isTaken(word, numbers)) {
                    fail(2);
                    return;
                }
                next++;
            }
            if (!token().text.equals(";")) {
                fail(1);
                return;
            }
            next++;
            clauses.add(new Clause(word, numbers));
        }

        private int bound(String told) {
            switch (told) {
                case "x": return last(Word.sky, 0, 6) - 1;
                case "y": return last(Word.sky, 1, 5) - 1;
                case "l": return last(Word.sky, 1, 5) - 2;
                case "k": return all(Word.cloud).size() - 1;
                default: return Integer.parseInt(told);
            }
        }

        private boolean isTaken(Word word, int[] at) {
            return all(word).stream().anyMatch(one -> one[0] == at[0] && one[1] == at[1]);
        }

        List<int[]> all(Word word) {
            List<int[]> all = new ArrayList<>();
            clauses.stream().filter(clause -> clause.word == word).forEach(clause -> all.add(clause.numbers));
            return all;
        }

        /** A number of the last clause of a word, or what holds without. */
        int last(Word word, int i, int without) {
            List<int[]> all = all(word);
            return all.isEmpty() ? without : all.get(all.size() - 1)[i];
        }

        int told(int what) {
            switch (what) {
                case 0: return last(Word.sky, 0, 6);
                case 1: return last(Word.sky, 1, 5);
                case 2: return all(Word.cloud).size();
                case 3: return all(Word.field).size();
                case 4: return all(Word.glacier).size();
                case 5: return last(Word.join, 0, 0);
                case 6: return last(Word.rate, 0, 20);
                case 7: return last(Word.hold, 0, 999);
                case 8: return last(Word.hail, 0, 50);
                default: return last(Word.flood, 0, 1);
            }
        }

        int owner(int cloud) {
            int owner = 7;
            int least = 1000;
            for (int[] seen : all(Word.seen)) {
                if (seen[0] == cloud && seen[2] < least) {
                    owner = seen[1];
                    least = seen[2];
                }
            }
            return owner;
        }

        /** Where a CLOUD alone is in each HOUR. */
        int[] path(int cloud) {
            int[] c = all(Word.cloud).get(cloud);
            int[] path = new int[50];
            int x = c[0];
            int y = c[1];
            boolean inside = true;
            for (int hour = 0; hour < 50; hour++) {
                if (hour > c[3]) {
                    int[] by = windOf(c[2], hour);
                    x += by[0];
                    y += by[1];
                    inside &= x >= 0 && y >= 0 && x < told(0) && y < told(1);
                }
                path[hour] = hour >= c[3] && inside ? 100 * x + y : -1;
            }
            return path;
        }

        private int[] windOf(int height, int hour) {
            int latest = -1;
            int[] by = {0, 0};
            for (int[] wind : all(Word.wind)) {
                if (wind[0] == height && wind[1] <= hour && wind[1] >= latest) {
                    latest = wind[1];
                    by = new int[] {wind[2] - 1, wind[3] - 1};
                }
            }
            return by;
        }
    }

    private long state = 3;
    private final int[] kinds = new int[5];

    public static void main(String[] args) {
        TextModelTest test = new TextModelTest();
        for (int i = 0; i < OBJECTS; i++) {
            test.oneObject();
        }
        for (int kind = 0; kind <= 4; kind++) {
            int many = test.kinds[kind];
            CHECK.is("texts of fault " + kind + ": " + many, 1, () -> many > 100 ? 1 : 0);
        }
        CHECK.end();
    }

    private int upTo(int most) {
        state = state * 6364136223846793005L + 1442695040888963407L;
        return (int) ((state >>> 33) % (most + 1));
    }

    /** Several texts, one behind the other: a FAULT leaves what the one before told. */
    private void oneObject() {
        OwnedClouds x = new OwnedClouds();
        Reader stands = new Reader("");
        for (int i = 0; i < TEXTS; i++) {
            String text = spoilt(upTo(9) == 0 ? crowd() : written());
            Reader read = new Reader(text);
            int n = Check.feed(x, text);
            if (read.fault == null) {
                stands = read;
                CHECK.is(text, read.told(2), () -> x.sky(n));
                CHECK.is(text + " fault", -1, x::fault);
            } else {
                CHECK.is(text, read.fault.kind - 10, () -> x.sky(n));
                CHECK.is(text + " fault", read.fault.place, x::fault);
            }
            kinds[read.fault == null ? 0 : read.fault.kind]++;
            CHECK.is(text + " tape", 0, () -> x.count(4));
            compare(text, stands, x);
        }
    }

    private void compare(String text, Reader due, OwnedClouds x) {
        for (int what = 0; what < 10; what++) {
            int asked = what;
            CHECK.is(text + " told " + what, due.told(what), () -> x.told(asked));
        }
        List<int[]> fields = due.all(Word.field);
        for (int i = 0; i < 6 * fields.size(); i++) {
            int asked = i;
            CHECK.is(text + " field " + i, fields.get(i / 6)[i % 6], () -> x.field(asked / 6, asked % 6));
        }
        for (int k = 0; k < due.told(2); k++) {
            int cloud = k;
            CHECK.is(text + " owner " + k, due.owner(k), () -> x.owner(cloud));
            int[] path = due.path(k);
            for (int hour = upTo(6); hour < 50; hour += 1 + upTo(9)) {
                int asked = hour;
                CHECK.is(text + " path " + k + ", " + hour, path[hour], () -> x.path(cloud, asked));
            }
        }
    }

    /** Clauses that mostly can stand so. */
    private String written() {
        StringBuilder text = new StringBuilder();
        Reader read = new Reader("");
        for (int many = upTo(24); many > 0; many--) {
            Word word = Word.values()[upTo(2) == 0 ? 2 : upTo(Word.values().length - 1)];
            if (word == Word.sky && text.length() > 0 && upTo(9) > 0) {
                word = Word.seen;
            }
            String clause = clauseOf(word, read);
            int seldom = word == Word.sky ? 2 : 30;
            if (new Reader(text + clause).fault == null || upTo(seldom) == 0) {
                text.append(clause);
            }
            read = new Reader(text.toString());
        }
        return text.append(blanks()).toString();
    }

    private String clauseOf(Word word, Reader read) {
        StringBuilder text = new StringBuilder(blanks()).append(word.name());
        for (int i = 0; i < word.ranges.length; i += 2) {
            int least = read.bound(word.ranges[i]);
            int most = Math.max(least, read.bound(word.ranges[i + 1]));
            int number = upTo(9) == 0 ? most : upTo(9) == 0 ? least : least + upTo(most - least);
            text.append(i == 0 && upTo(3) == 0 ? "" : " ").append(blanks()).append(upTo(30) == 0 ? "00" : "");
            text.append(upTo(60) == 0 ? Math.max(0, upTo(1) == 0 ? most + 1 : least - 1) : number);
        }
        return text.append(blanks()).append(';').toString();
    }

    private String blanks() {
        return upTo(3) == 0 ? " ".repeat(upTo(3)) : "";
    }

    /** So many of the same that there are too many, or just not. */
    private String crowd() {
        switch (upTo(4)) {
            case 0: return "wind0 0 0 0;".repeat(8 + upTo(2));
            case 1: return "cloud0 0 0 0 1;".repeat(7 + upTo(2));
            case 2: return "glacier0 0 0;glacier1 0 0;glacier2 0 0;" + "glacier3 0 0;".repeat(upTo(1));
            case 3: return fields(11 + upTo(2));
            default: return "join1;".repeat(58 + upTo(3)) + List.of("", "hail 4;", "sky 2 2;", "x").get(upTo(3));
        }
    }

    private static String fields(int many) {
        StringBuilder text = new StringBuilder();
        for (int i = 0; i < many; i++) {
            text.append("field ").append(i % 6).append(' ').append(i / 6).append(" 0 0 0 0;");
        }
        return text.toString();
    }

    /** The text with a few bytes changed, put in, left out, cut or told twice; at most 600. */
    private String spoilt(String written) {
        StringBuilder text = new StringBuilder(written);
        for (int many = upTo(1) * upTo(3); many > 0 && text.length() > 0; many--) {
            int at = upTo(text.length() - 1);
            char sign = SIGNS.charAt(upTo(SIGNS.length() - 1));
            switch (upTo(5)) {
                case 0: text.setCharAt(at, sign); break;
                case 1: text.insert(at, sign); break;
                case 2: text.deleteCharAt(at); break;
                case 3: text.setLength(at); break;
                case 4: text.insert(at, text.substring(at, at + upTo(Math.min(20, text.length() - at)))); break;
                default: text.append(sign); break;
            }
        }
        text.setLength(Math.min(600, text.length()));
        return text.toString();
    }
}
