import java.nio.charset.StandardCharsets;

/** Compares answers with those that are due, prints the others, and ends a test. */
final class Check {
    private static int wrong = 0;
    private static String sentence = "";

    private Check() {
    }

    /** A call that may throw. */
    interface Call {
        long ask();
    }

    /** The sentence of a section of the document's Terms, or of the paragraph behind them, that is tested next. */
    static void terms(int section, String words) {
        sentence = "Terms, section " + section + ": " + words;
    }

    /** The sentence of a promise that is tested next; SentencesTest looks for the words in the document. */
    static void promise(int number, String words) {
        sentence = "Promise " + number + ": " + words;
    }

    static void due(String call, long got, long want) {
        if (got != want) {
            fail(call + " answered " + got + ", due is " + want);
        }
    }

    static void due(String call, boolean got, boolean want) {
        if (got != want) {
            fail(call + " answered " + got + ", due is " + want);
        }
    }

    static void due(String call, double got, double want) {
        if (Double.compare(got, want) != 0) {
            fail(call + " answered " + got + ", due is " + want);
        }
    }

    static void due(String call, String got, String want) {
        if (!got.equals(want)) {
            fail(call + " answered " + got + ", due is " + want);
        }
    }

    static void index(String name, Call call) {
        throwing(name, call, IndexOutOfBoundsException.class);
    }

    static void argument(String name, Call call) {
        throwing(name, call, IllegalArgumentException.class);
    }

    static void state(String name, Call call) {
        throwing(name, call, IllegalStateException.class);
    }

    private static void throwing(String name, Call call, Class<? extends RuntimeException> want) {
        String got = answer(call);
        if (!got.equals(want.getName())) {
            fail(name + " answered " + got + ", due is " + want.getName());
        }
    }

    /** The number that a call answers, or the name of what it throws. */
    static String answer(Call call) {
        try {
            return "" + call.ask();
        } catch (RuntimeException e) {
            return e.getClass().getName();
        }
    }

    static void fail(String what) {
        wrong++;
        System.out.println(sentence.isEmpty() ? what : what + "\n    " + sentence);
    }

    /** Prints the verdict and ends with 1 if an answer was wrong. */
    static void end() {
        System.out.println(wrong == 0 ? "all answers are as due" : wrong + " answers are not as due");
        if (wrong != 0) {
            System.exit(1);
        }
    }

    /** Puts a text of at most 600 bytes into the empty input buffer. */
    static EchoMarket feed(EchoMarket x, String text) {
        byte[] bytes = new byte[(text.length() + 19) / 20 * 20];
        byte[] letters = text.getBytes(StandardCharsets.ISO_8859_1);
        System.arraycopy(letters, 0, bytes, 0, letters.length);
        for (int i = 0; i < bytes.length; i += 20) {
            x.feed(word(bytes, i), word(bytes, i + 4), word(bytes, i + 8), word(bytes, i + 12), word(bytes, i + 16));
        }
        x.truncate(text.length());
        return x;
    }

    private static int word(byte[] bytes, int at) {
        return (bytes[at] & 255) << 24 | (bytes[at + 1] & 255) << 16 | (bytes[at + 2] & 255) << 8
                | bytes[at + 3] & 255;
    }

    static EchoMarket described(String text) {
        EchoMarket x = feed(new EchoMarket(), text);
        try {
            x.readText();
        } catch (IllegalArgumentException e) {
            fail("the description has the error " + x.errorCode() + " at " + x.errorOffset() + ": " + text);
        }
        return x;
    }

    /** Runs a script that has to be valid. */
    static int script(EchoMarket x, String text) {
        return feed(x, text).runScript();
    }

    /** What readText() makes of a text: the number of shouts, or the error as code@offset. */
    static String read(EchoMarket x, String text) {
        feed(x, text);
        try {
            return "" + x.readText();
        } catch (IllegalArgumentException e) {
            return x.errorCode() + "@" + x.errorOffset();
        }
    }

    /** What runScript() makes of a text: the number of commands, or the error as code@offset. */
    static String run(EchoMarket x, String text) {
        feed(x, text);
        try {
            return "" + x.runScript();
        } catch (IllegalArgumentException e) {
            return x.errorCode() + "@" + x.errorOffset();
        }
    }

    static String output(EchoMarket x, int length) {
        StringBuilder text = new StringBuilder();
        for (int i = 0; i < length; i++) {
            text.append((char) x.outputByte(i));
        }
        return text.toString();
    }
}
