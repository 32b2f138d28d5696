import java.lang.reflect.InvocationTargetException;
import java.lang.reflect.Method;
import java.util.Arrays;

/** Runs of calls by the fall of dice, the same for EchoMarket and PlainMarket; each run is the same every time. */
public final class RandomRunsTest {
    private static final int RUNS = 2000;
    private static final int MOST_CALLS = 512;
    private static final int MANY_QUERIES = 12;
    private static final int FEW_QUERIES = 5;
    private static final String[] NAMES = {"a", "ab", "abc", "b", "zug", "alm", "fog", "market", "shout", "zzzzzzzz"};
    private static final int[] ODD = {Integer.MIN_VALUE, -1000, -1, 0, 1, 2, 3, 4, 5, 8, 9, 10, 20, 21, 30, 60, 61, 99,
            100, 240, 241, 600, 9999, 10000, Integer.MAX_VALUE};
    private static final String[] PLAIN = {"errorCode", "errorOffset", "valleyCount", "customerCount", "shoutCount",
            "time", "earned", "refunded", "held", "wellDepth", "openShouts", "findValley", "bestValley",
            "findCustomer", "angryCustomers", "bestCustomer", "nextEvent", "violations", "meanRating",
            "heardFraction"};
    private static final String[] OF_VALLEY = {"width", "walls", "price", "rating", "echoesLost", "earnedIn",
            "valleyByName"};
    private static final String[] OF_CUSTOMER = {"money", "patience", "suspicion", "isAngry", "echoesHeard",
            "heldFor"};
    private static final String[] OF_SHOUT = {"shoutCustomer", "shoutValley", "shoutState", "returns", "receipt",
            "nextReturn", "patienceEnds", "finalState"};

    private static EchoMarket market;
    private static PlainMarket plain;
    private static int calls;
    private static StringBuilder story;
    private static boolean failed;
    private static long fallen = 20261119;

    public static void main(String[] args) {
        for (int run = 0; run < RUNS && !failed; run++) {
            market = new EchoMarket();
            plain = new PlainMarket();
            story = new StringBuilder();
            calls = 0;
            run(run % 4);
        }
        Check.end();
    }

    /** The mood 0 begins with an empty market; in 1 much time passes, in 2 many shouts are sold. */
    private static void run(int mood) {
        if (mood != 0) {
            feed(beginning());
            both("readText");
        }
        while (calls < MOST_CALLS && !failed) {
            change(mood);
            for (int i = dice(mood == 1 || mood == 2 ? FEW_QUERIES : MANY_QUERIES); i > 0; i--) {
                query();
            }
        }
    }

    /** In the moods 1 and 2 nothing is taken back, so that the last second and the last sale are reached. */
    private static void change(int mood) {
        int kind = dice(100);
        if ((mood == 1 || mood == 2) && (kind >= 79 && kind < 90 || dice(2) == 0)) {
            kind = mood == 1 ? 50 : dice(3) == 0 ? 60 : 30;
        }
        if (kind < 10) {
            feed(name());
            both("addValley", range(1, 20), range(1, 4), range(1, 12));
        } else if (kind < 18) {
            feed(name());
            both("addCustomer", range(1, 80), range(0, 300));
        } else if (kind < 42) {
            both("shout", customer(), valley(), range(1, 20), range(1, 4));
        } else if (kind < 60) {
            both("pass", mood == 1 ? range(150, 240) : range(1, 15));
        } else if (kind < 67) {
            both("fake", shout());
        } else if (kind < 69) {
            both("cancel", shout());
        } else if (kind < 74) {
            both("setFog", valley(), range(0, 9));
        } else if (kind < 76) {
            both("setPrice", valley(), range(1, 99));
        } else if (kind < 79) {
            both("setWell", range(0, 3));
        } else if (kind < 84) {
            do {
                both("undo");
            } while (dice(3) != 0);
        } else if (kind < 86) {
            both("saveState");
        } else if (kind < 87) {
            both("restoreState");
        } else if (kind < 90) {
            feed(spoiled(description()));
            both("readText");
        } else if (kind < 98) {
            feed(spoiled(script(0)));
            both("runScript");
        } else if (kind < 99) {
            for (int i = dice(32); i > 0; i--) {
                both("feed", fall(), fall(), fall(), fall(), fall());
            }
        } else {
            both("truncate", range(0, 600));
        }
    }

    // ---- dice, arguments and texts

    /** 32 bits that look as if they had fallen by chance (Knuth's linear congruential generator). */
    private static int fall() {
        fallen = fallen * 6364136223846793005L + 1442695040888963407L;
        return (int) (fallen >>> 32);
    }

    private static int dice(int sides) {
        return Math.floorMod(fall(), sides);
    }

    private static String oneOf(String[] texts) {
        return texts[dice(texts.length)];
    }

    private static int range(int least, int most) {
        return dice(12) == 0 ? ODD[dice(ODD.length)] : least + dice(most - least + 1);
    }

    private static int valley() {
        return range(0, Math.max(0, plain.valleyCount() - 1));
    }

    private static int customer() {
        return range(0, Math.max(0, plain.customerCount() - 1));
    }

    private static int shout() {
        for (int s = plain.shoutCount() - 1; s >= 0 && dice(5) != 0; s--) {
            if (plain.shoutState(s) == 0 && dice(2) == 0) {
                return s;
            }
        }
        return range(0, Math.max(0, plain.shoutCount() - 1));
    }

    private static String name() {
        return oneOf(NAMES);
    }

    private static String number(int least, int most) {
        int number = range(least, most);
        return " " + (number < 0 ? 0 : number);
    }

    private static String beginning() {
        StringBuilder text = new StringBuilder("market;");
        for (int i = dice(NAMES.length - 2); i >= 0; i--) {
            text.append("valley ").append(NAMES[i]).append(few(1, 20)).append(few(1, 4)).append(few(1, 12)).append(';');
        }
        for (int i = dice(NAMES.length - 2); i >= 0; i--) {
            text.append("customer ").append(NAMES[i]).append(few(1, 80)).append(few(0, 999)).append(';');
        }
        return text.toString();
    }

    private static String description() {
        StringBuilder text = new StringBuilder("market;");
        String[] valleys = {name(), name() + "x"};
        String[] customers = {name(), name() + "x"};
        for (String valley : valleys) {
            text.append("valley ").append(valley).append(few(1, 9)).append(few(1, 4)).append(few(1, 9)).append(';');
        }
        for (String customer : customers) {
            text.append("customer ").append(customer).append(few(5, 99)).append(few(50, 200)).append(';');
        }
        String many = dice(3) != 0 ? "" : dice(2) == 0 ? "valley " : "customer ";
        for (int i = 0; i < NAMES.length && !many.isEmpty(); i++) {
            text.append(many).append(NAMES[i]).append(many.equals("valley ") ? " 1 1 1;" : " 1 1;");
        }
        int count = dice(12);
        for (int i = 0; i < count; i++) {
            String valley = valleys[dice(2)];
            String customer = customers[dice(2)];
            switch (dice(8)) {
                case 0, 1, 2 -> text.append("shout ").append(customer).append(' ').append(valley).append(few(1, 20))
                        .append(few(1, 2));
                case 3 -> text.append("fog ").append(valley).append(few(0, 9));
                case 4 -> text.append("price ").append(valley).append(few(1, 20));
                case 5 -> text.append("well").append(few(0, 20));
                case 6 -> text.append("pass").append(few(1, 40));
                default -> text.append("fake").append(few(0, 1));
            }
            text.append(';');
        }
        return text.toString();
    }

    private static String few(int least, int most) {
        return dice(60) == 0 ? number(least, most) : " " + (least + dice(most - least + 1));
    }

    private static String script(int repeats) {
        StringBuilder text = new StringBuilder();
        int count = dice(repeats == 0 ? 8 : 4);
        for (int i = 0; i < count; i++) {
            switch (dice(9)) {
                case 0, 1 -> text.append("shout ").append(nameOf(false)).append(' ').append(nameOf(true))
                        .append(few(1, 20)).append(few(1, 4));
                case 2 -> text.append("fog ").append(nameOf(true)).append(few(0, 9));
                case 3 -> text.append("price ").append(nameOf(true)).append(few(1, 20));
                case 4 -> text.append("well").append(few(0, 20));
                case 5 -> text.append("pass").append(few(1, 20));
                case 6 -> text.append("fake").append(few(0, Math.max(0, plain.shoutCount())));
                case 7 -> text.append("cancel").append(few(0, Math.max(0, plain.shoutCount())));
                default -> text.append(repeats < 3 ? "repeat" + few(1, 20) + "(" + script(repeats + 1) + ")"
                        : "well 1");
            }
            text.append(';');
        }
        if (repeats == 0 && dice(10) == 0) {
            text.append("well 1;".repeat(26 + dice(6)));
        }
        return text.toString();
    }

    private static String nameOf(boolean valley) {
        int count = valley ? plain.valleyCount() : plain.customerCount();
        if (count == 0 || dice(40) == 0) {
            return name();
        }
        return valley ? plain.valleyName(dice(count)) : plain.customerName(dice(count));
    }

    private static String spoiled(String text) {
        StringBuilder spoiled = new StringBuilder(text);
        while (dice(4) == 0) {
            int at = dice(spoiled.length() + 1);
            int kind = dice(4);
            if (kind == 0 && at < spoiled.length()) {
                spoiled.deleteCharAt(at);
            } else if (kind == 1) {
                spoiled.setLength(at);
            } else {
                spoiled.insert(at, " \n;()a7#\0\t".charAt(dice(10)));
            }
        }
        return spoiled.length() > 600 ? spoiled.substring(0, 600) : spoiled.toString();
    }

    private static void feed(String text) {
        both("truncate", 0);
        int[] words = new int[(text.length() + 19) / 20 * 5];
        for (int i = 0; i < text.length(); i++) {
            words[i / 4] |= (text.charAt(i) & 255) << 24 - i % 4 * 8;
        }
        for (int i = 0; i < words.length; i += 5) {
            both("feed", words[i], words[i + 1], words[i + 2], words[i + 3], words[i + 4]);
        }
        both("truncate", text.length());
        story.append("  text ").append(text.replace("\n", "\\n")).append('\n');
    }

    // ---- comparing

    private static void query() {
        switch (dice(16)) {
            case 0, 1, 2 -> both(oneOf(PLAIN));
            case 3, 4 -> both(oneOf(OF_VALLEY), valley());
            case 5, 6 -> both(oneOf(OF_CUSTOMER), customer());
            case 7, 8, 9 -> both(oneOf(OF_SHOUT), shout());
            case 10 -> both("valleyByte", valley(), range(0, 8));
            case 11 -> both("neededLoudness", valley(), range(1, 4));
            case 12 -> both("bestOffer", customer(), range(1, 4));
            case 13 -> both("refusal", customer(), valley(), range(1, 4));
            case 14 -> both("earnedAfter", dice(2) == 0 ? range(0, 30) : range(0, 240));
            default -> receipt();
        }
    }

    private static void receipt() {
        both("printReceipt", shout());
        for (int i = dice(6); i > 0; i--) {
            both("outputByte", range(0, 27));
        }
    }

    private static void both(String name, int... numbers) {
        if (failed || calls == MOST_CALLS) {
            return;
        }
        calls++;
        String got = answer(market, name, numbers);
        String want = answer(plain, name, numbers);
        boolean changes = !Arrays.asList(PLAIN).contains(name);
        if (changes) {
            story.append(name).append(Arrays.toString(numbers)).append(" -> ").append(want).append('\n');
        }
        if (!got.equals(want)) {
            failed = true;
            System.out.println(story);
            Check.fail(name + Arrays.toString(numbers) + " answered " + got + ", due is " + want);
        }
    }

    private static String answer(Object object, String name, int[] numbers) {
        try {
            Class<?>[] types = new Class<?>[numbers.length];
            Object[] values = new Object[numbers.length];
            for (int i = 0; i < numbers.length; i++) {
                types[i] = int.class;
                values[i] = numbers[i];
            }
            Method method = object.getClass().getMethod(name, types);
            return "" + method.invoke(object, values);
        } catch (InvocationTargetException e) {
            return e.getCause().getClass().getName();
        } catch (ReflectiveOperationException e) {
            throw new IllegalStateException(e);
        }
    }
}
