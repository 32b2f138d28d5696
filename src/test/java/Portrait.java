import java.util.function.Supplier;

/**
 * All that can be learned of an object, as one text: what it answers now, its input, error and output, what undo(),
 * restoreState() and pass() make of it. Each part is asked on an object of its own, because an object is good for 512
 * calls and some of the asking changes it.
 */
final class Portrait {
    private final Supplier<EchoMarket> maker;
    private final StringBuilder text = new StringBuilder();

    private Portrait(Supplier<EchoMarket> maker) {
        this.maker = maker;
    }

    /** Everything; the maker has to make the same object each time. */
    static String of(Supplier<EchoMarket> maker) {
        Portrait portrait = new Portrait(maker);
        portrait.texts();
        portrait.text.append(withoutTexts(maker));
        return portrait.text.toString();
    }

    /** Everything but the input buffer and the error. */
    static String withoutTexts(Supplier<EchoMarket> maker) {
        Portrait portrait = new Portrait(maker);
        portrait.output();
        portrait.text.append(ofMarket(maker));
        portrait.behindUndo();
        portrait.behind("restoreState", x -> x.restoreState());
        portrait.behind("pass", x -> x.pass(1));
        portrait.behind("pass", x -> x.pass(200));
        return portrait.text.toString();
    }

    /** What undo() restores: valleys, customers, shouts, time, well and sums. */
    static String ofMarket(Supplier<EchoMarket> maker) {
        Portrait portrait = new Portrait(maker);
        portrait.totals(maker.get());
        portrait.valleys(maker.get());
        portrait.names(maker.get());
        portrait.customers(maker.get());
        portrait.shouts(maker.get());
        portrait.refusals(maker.get());
        return portrait.text.toString();
    }

    private interface Step {
        long on(EchoMarket x);
    }

    private void add(Check.Call call) {
        text.append(Check.answer(call)).append(' ');
    }

    private void line(String name) {
        text.append('\n').append(name).append(": ");
    }

    private void totals(EchoMarket x) {
        line("totals");
        add(() -> x.valleyCount());
        add(() -> x.customerCount());
        add(() -> x.shoutCount());
        add(() -> x.time());
        add(() -> x.earned());
        add(() -> x.refunded());
        add(() -> x.held());
        add(() -> x.wellDepth());
        add(() -> x.openShouts());
        add(() -> x.bestValley());
        add(() -> x.bestCustomer());
        add(() -> x.angryCustomers());
        add(() -> x.nextEvent());
        add(() -> x.violations());
        text.append(x.meanRating()).append(' ').append(x.heardFraction());
        line("earnings to come");
        for (int seconds = 0; seconds <= 240; seconds += 30) {
            int after = seconds;
            add(() -> x.earnedAfter(after));
        }
    }

    private void valleys(EchoMarket x) {
        int count = x.valleyCount();
        for (int i = 0; i <= count; i++) {
            int valley = i;
            line("valley " + i);
            add(() -> x.width(valley));
            add(() -> x.walls(valley));
            add(() -> x.price(valley));
            add(() -> x.rating(valley));
            add(() -> x.echoesLost(valley));
            add(() -> x.earnedIn(valley));
            add(() -> x.valleyByName(valley));
            for (int order = 1; order <= 4; order++) {
                int asked = order;
                add(() -> x.neededLoudness(valley, asked));
            }
            add(() -> x.setFog(valley, 0));
        }
    }

    private void names(EchoMarket x) {
        int count = x.valleyCount();
        for (int i = 0; i < count; i++) {
            line("name " + i);
            for (int index = 0; index <= 8; index++) {
                text.append(x.valleyByte(i, index)).append(' ');
            }
        }
    }

    private void customers(EchoMarket x) {
        int count = x.customerCount();
        for (int i = 0; i <= count; i++) {
            int customer = i;
            line("customer " + i);
            add(() -> x.money(customer));
            add(() -> x.patience(customer));
            add(() -> x.suspicion(customer));
            add(() -> x.isAngry(customer) ? 1 : 0);
            add(() -> x.echoesHeard(customer));
            add(() -> x.heldFor(customer));
            add(() -> x.bestOffer(customer, 1));
            add(() -> x.bestOffer(customer, 2));
        }
    }

    private void shouts(EchoMarket x) {
        int count = x.shoutCount();
        for (int i = 0; i <= count; i++) {
            int shout = i;
            line("shout " + i);
            add(() -> x.shoutCustomer(shout));
            add(() -> x.shoutValley(shout));
            add(() -> x.shoutState(shout));
            add(() -> x.returns(shout));
            add(() -> x.receipt(shout));
            add(() -> x.nextReturn(shout));
            add(() -> x.patienceEnds(shout));
            add(() -> x.finalState(shout));
            int length = i < count ? x.printReceipt(shout) : 0;
            for (int index = Math.max(0, length - 9); index < length && i >= count - 4; index++) {
                text.append((char) x.outputByte(index));
            }
        }
    }

    private void refusals(EchoMarket x) {
        int customers = x.customerCount();
        int valleys = x.valleyCount();
        for (int customer = 0; customer < customers; customer++) {
            line("refusals of customer " + customer);
            for (int valley = 0; valley < valleys; valley++) {
                for (int order = 1; order <= 4; order += 3) {
                    text.append(x.refusal(customer, valley, order)).append(' ');
                }
            }
        }
    }

    private void output() {
        EchoMarket x = maker.get();
        line("output");
        for (int i = 0; i < 32; i++) {
            int index = i;
            add(() -> x.outputByte(index));
        }
    }

    /** The buffer's length shows in what truncate() takes, its bytes in what the texts and searches make of them. */
    private void texts() {
        EchoMarket x = maker.get();
        line("error");
        add(() -> x.errorCode());
        add(() -> x.errorOffset());
        line("input");
        text.append(inputLength(maker)).append(' ');
        add(() -> x.findValley());
        add(() -> x.findCustomer());
        add(() -> x.runScript());
        add(() -> x.errorOffset());
        EchoMarket y = maker.get();
        add(() -> y.readText());
        add(() -> y.errorOffset());
        add(() -> y.wellDepth());
    }

    static int inputLength(Supplier<EchoMarket> maker) {
        EchoMarket x = maker.get();
        try {
            return x.feed(0, 0, 0, 0, 0) - 20;
        } catch (IllegalStateException e) {
            return fullLength(x);
        }
    }

    private static int fullLength(EchoMarket x) {
        for (int length = 600; length > 580; length--) {
            int tried = length;
            if (Check.answer(() -> x.truncate(tried)).equals("" + length)) {
                return length;
            }
        }
        return -1;
    }

    private void behindUndo() {
        boolean more = true;
        for (int i = 1; i <= 7 && more; i++) {
            int times = i;
            Supplier<EchoMarket> earlier = () -> undone(maker.get(), times - 1);
            line("undo " + i);
            String left = Check.answer(() -> earlier.get().undo());
            text.append(left);
            more = !left.startsWith("java");
            if (more) {
                text.append(ofMarket(() -> undone(maker.get(), times)));
            }
        }
    }

    private static EchoMarket undone(EchoMarket x, int times) {
        for (int i = 0; i < times; i++) {
            x.undo();
        }
        return x;
    }

    private void behind(String name, Step step) {
        line(name);
        EchoMarket x = maker.get();
        String answer = Check.answer(() -> step.on(x));
        text.append(answer);
        if (!answer.startsWith("java")) {
            text.append(ofMarket(() -> {
                EchoMarket y = maker.get();
                step.on(y);
                return y;
            }));
        }
    }
}
