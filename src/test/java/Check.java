import java.io.IOException;
import java.nio.file.Files;
import java.nio.file.Path;

/** What the tests share: counted checks, answers told as texts, and texts brought to an object as its SKY. */
final class Check {
    interface Call {
        long answer();
    }

    interface CallOf {
        long answer(int number);
    }

    static final String IAE = "throws.IllegalArgumentException";
    static final String NSE = "throws.NoSuchElementException";
    static final String IOOBE = "throws.IndexOutOfBoundsException";

    private static final Path DOC = Path.of("../shared/DOC.md");

    private int checks;
    private int wrong;
    private String sentence = "";
    private String document;

    /** The answer of a call, or throws. and the name of what it throws. */
    static String told(Call call) {
        try {
            return Long.toString(call.answer());
        } catch (RuntimeException e) {
            return "throws." + e.getClass().getSimpleName();
        }
    }

    void is(String name, long want, Call call) {
        is(name, Long.toString(want), call);
    }

    void is(String name, String want, Call call) {
        is(name, want, told(call));
    }

    void is(String name, String want, String got) {
        checks++;
        if (!got.equals(want)) {
            wrong++;
            System.out.println(sentence + name + ": answered " + got + ", due is " + want);
        }
    }

    /** The next checks are of these words, which must stand in the document. */
    void sentence(String words) {
        sentence = "";
        is("\"" + words + "\" stands in the document", "true", Boolean.toString(document().contains(words)));
        sentence = "\"" + words + "\": ";
    }

    private String document() {
        if (document == null) {
            try {
                document = Files.readString(DOC).replaceAll("\\s+", " ");
            } catch (IOException e) {
                throw new IllegalStateException("no document", e);
            }
        }
        return document;
    }

    /** What is due at an edge and beside it: "-1:IAE 0:5" is an exception of -1, and 5 of 0. */
    void edge(String name, String dues, CallOf call) {
        for (String due : dues.split(" ")) {
            String[] pair = due.split(":");
            int number = Integer.parseInt(pair[0]);
            is(name + " " + number, written(pair[1]), () -> call.answer(number));
        }
    }

    private static String written(String due) {
        switch (due) {
            case "IAE": return IAE;
            case "NSE": return NSE;
            case "IOOBE": return IOOBE;
            default: return due;
        }
    }

    /** Feeds a text, filled up with zero bytes, and answers how many bytes are its own. */
    static int feed(OwnedClouds x, String text) {
        int[] five = new int[5];
        for (int from = 0; from < text.length(); from += 20) {
            for (int i = 0; i < 5; i++) {
                five[i] = 0;
                for (int j = 0; j < 4; j++) {
                    int at = from + 4 * i + j;
                    five[i] = five[i] << 8 | (at < text.length() ? text.charAt(at) & 255 : 0);
                }
            }
            x.feed(five[0], five[1], five[2], five[3], five[4]);
        }
        return text.length();
    }

    static OwnedClouds under(String text) {
        OwnedClouds x = new OwnedClouds();
        int answer = x.sky(feed(x, text));
        if (answer < 0) {
            throw new IllegalStateException(text + ": " + answer + " at " + x.fault());
        }
        return x;
    }

    void end() {
        System.out.println(checks + " checks, " + wrong + " wrong");
        if (wrong > 0) {
            System.exit(1);
        }
    }
}
