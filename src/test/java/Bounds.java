import java.util.function.Supplier;

/** Calls at a bound, which are taken, and beyond it, which are refused with an exception and change nothing. */
final class Bounds {
    private Bounds() {
    }

    /** A call. */
    interface Act {
        long on(EchoMarket x);
    }

    /** A call with a number that has bounds. */
    interface NumberAct {
        long on(EchoMarket x, int n);
    }

    /** The call is taken at the least and the greatest number and refused as a wrong argument beyond them. */
    static void arguments(String call, Supplier<EchoMarket> maker, int least, int most, NumberAct act) {
        bounded(call, maker, least, most, act, IllegalArgumentException.class);
    }

    /** The call is taken for the numbers 0 to count - 1 and refused as a wrong index beyond them. */
    static void indices(String call, Supplier<EchoMarket> maker, int count, NumberAct act) {
        bounded(call, maker, 0, count - 1, act, IndexOutOfBoundsException.class);
    }

    private static void bounded(String call, Supplier<EchoMarket> maker, int least, int most, NumberAct act,
            Class<? extends RuntimeException> exception) {
        for (int n : new int[] {least, most}) {
            if (least <= most) {
                taken(call + " of " + n, maker, x -> act.on(x, n));
            }
        }
        String before = Portrait.of(maker);
        int[] beyond = {least - 1, most + 1, -2 - most, most + 256, least + 65536, Integer.MIN_VALUE,
                Integer.MIN_VALUE + least, Integer.MIN_VALUE + most, Integer.MAX_VALUE};
        for (int n : beyond) {
            refused(call + " of " + n, maker, before, x -> act.on(x, n), exception);
        }
    }

    static void taken(String call, Supplier<EchoMarket> maker, Act act) {
        EchoMarket x = maker.get();
        String answer = Check.answer(() -> act.on(x));
        if (answer.startsWith("java")) {
            Check.fail(call + " threw " + answer + ", but is within the bounds");
        }
    }

    static void index(String call, Supplier<EchoMarket> maker, Act act) {
        refused(call, maker, Portrait.of(maker), act, IndexOutOfBoundsException.class);
    }

    static void argument(String call, Supplier<EchoMarket> maker, Act act) {
        refused(call, maker, Portrait.of(maker), act, IllegalArgumentException.class);
    }

    static void state(String call, Supplier<EchoMarket> maker, Act act) {
        refused(call, maker, Portrait.of(maker), act, IllegalStateException.class);
    }

    private static void refused(String call, Supplier<EchoMarket> maker, String before, Act act,
            Class<? extends RuntimeException> exception) {
        EchoMarket x = maker.get();
        Check.due(call, Check.answer(() -> act.on(x)), exception.getName());
        unchanged(call, maker, before, act);
    }

    /** A call that asks only changes nothing. */
    static void asksOnly(String call, Supplier<EchoMarket> maker, Act act) {
        unchanged(call, maker, Portrait.of(maker), act);
    }

    private static void unchanged(String call, Supplier<EchoMarket> maker, String before, Act act) {
        String behind = Portrait.of(() -> {
            EchoMarket y = maker.get();
            Check.answer(() -> act.on(y));
            return y;
        });
        if (!behind.equals(before)) {
            Check.fail(call + " changed something; before it:" + before + "\nbehind it:" + behind);
        }
    }
}
