import java.util.function.Supplier;

/**
 * Every method that can throw, in a new market, an ordinary one, a full one and one in its last second: which exception
 * it throws, which of several comes first, and that nothing has changed behind it.
 */
public final class RefusedCallsTest {
    private static String stateName;
    private static Supplier<EchoMarket> state;
    private static int valleys;
    private static int customers;
    private static int shouts;

    public static void main(String[] args) {
        in("a new market", () -> new EchoMarket(), 0, 0, 0);
        in("an ordinary market", () -> ordinary(), 2, 2, 4);
        in("a full market", () -> full(), 8, 8, 30);
        in("the last second", () -> late(), 2, 2, 2);
        passing();
        closedShouts();
        taken();
        Check.end();
    }

    private static EchoMarket ordinary() {
        EchoMarket x = Check.described("market;valley v 10 4 5;valley w 4 2 7;customer c 30 100;customer d 100 99;"
                + "shout c v 9 3;shout d w 9 2;shout c w 9 2;shout d v 9 4;pass 4;fog v 1;price w 8;well 3;");
        Check.run(x, "well 3;x");
        x.printReceipt(0);
        x.saveState();
        x.pass(3);
        x.cancel(2);
        x.fake(0);
        x.pass(3);
        return Check.feed(x, "w");
    }

    private static EchoMarket full() {
        StringBuilder text = new StringBuilder("market;");
        StringBuilder sales = new StringBuilder();
        for (char name = 'a'; name <= 'h'; name++) {
            text.append("valley ").append(name).append("9 4 1;customer ").append(name).append("99 99;");
        }
        for (int i = 0; i < 30; i++) {
            sales.append("shout ").append((char) ('a' + i % 8)).append(' ').append((char) ('a' + i / 8)).append(" 9 1;");
        }
        EchoMarket x = Check.described(text.toString());
        Check.script(x, sales.toString());
        x.saveState();
        x.printReceipt(29);
        for (int i = 0; i < 7; i++) {
            x.pass(1);
        }
        x.fake(3);
        return Check.feed(x, "a" + " ".repeat(599));
    }

    private static EchoMarket late() {
        EchoMarket x = Check.described("market;" + "pass240;".repeat(41) + "pass99;valley v 60 4 5;valley w 4 2 7;"
                + "customer c 99 99;customer d 99 99;shout c v 9 4;pass 50;shout d v 9 4;");
        x.pass(10);
        return Check.feed(x, "nobody");
    }

    private static void in(String name, Supplier<EchoMarket> maker, int valleyCount, int customerCount, int shoutCount) {
        stateName = name + ": ";
        state = maker;
        valleys = valleyCount;
        customers = customerCount;
        shouts = shoutCount;
        Check.due(stateName + "valleyCount", maker.get().valleyCount(), valleyCount);
        Check.due(stateName + "customerCount", maker.get().customerCount(), customerCount);
        Check.due(stateName + "shoutCount", maker.get().shoutCount(), shoutCount);
        valleyNumbers();
        customerNumbers();
        shoutNumbers();
        arguments();
        indexFirst();
        argumentBeforeState();
        asking();
    }

    private static void valleys(String call, Bounds.NumberAct act) {
        Bounds.indices(stateName + call, state, valleys, act);
    }

    private static void valleyNumbers() {
        Check.terms(8, "A method that throws an exception changes nothing, unless its description says otherwise.");
        valleys("valleyByte", (x, n) -> x.valleyByte(n, 0));
        valleys("width", (x, n) -> x.width(n));
        valleys("walls", (x, n) -> x.walls(n));
        valleys("price", (x, n) -> x.price(n));
        valleys("rating", (x, n) -> x.rating(n));
        valleys("echoesLost", (x, n) -> x.echoesLost(n));
        valleys("earnedIn", (x, n) -> x.earnedIn(n));
        valleys("neededLoudness", (x, n) -> x.neededLoudness(n, 4));
        valleys("setFog", (x, n) -> x.setFog(n, 9));
        valleys("setPrice", (x, n) -> x.setPrice(n, 99));
        if (customers > 0) {
            valleys("refusal", (x, n) -> x.refusal(0, n, 1));
        }
    }

    private static void customers(String call, Bounds.NumberAct act) {
        Bounds.indices(stateName + call, state, customers, act);
    }

    private static void customerNumbers() {
        customers("money", (x, n) -> x.money(n));
        customers("patience", (x, n) -> x.patience(n));
        customers("suspicion", (x, n) -> x.suspicion(n));
        customers("isAngry", (x, n) -> x.isAngry(n) ? 1 : 0);
        customers("echoesHeard", (x, n) -> x.echoesHeard(n));
        customers("heldFor", (x, n) -> x.heldFor(n));
        customers("bestOffer", (x, n) -> x.bestOffer(n, 4));
        if (valleys > 0) {
            customers("refusal", (x, n) -> x.refusal(n, 0, 1));
        }
    }

    private static void shouts(String call, Bounds.NumberAct act) {
        Bounds.indices(stateName + call, state, shouts, act);
    }

    private static void shoutNumbers() {
        shouts("shoutCustomer", (x, n) -> x.shoutCustomer(n));
        shouts("shoutValley", (x, n) -> x.shoutValley(n));
        shouts("shoutState", (x, n) -> x.shoutState(n));
        shouts("returns", (x, n) -> x.returns(n));
        shouts("receipt", (x, n) -> x.receipt(n));
        shouts("nextReturn", (x, n) -> x.nextReturn(n));
        shouts("patienceEnds", (x, n) -> x.patienceEnds(n));
        shouts("finalState", (x, n) -> x.finalState(n));
        shouts("printReceipt", (x, n) -> x.printReceipt(n));
        shouts("cancel", (x, n) -> x.cancel(n));
        shouts("fake", (x, n) -> x.fake(n));
    }

    private static void arguments() {
        Check.terms(8, "A method that throws an exception changes nothing, unless its description says otherwise.");
        Bounds.arguments(stateName + "setWell", state, 0, 20, (x, n) -> x.setWell(n));
        Bounds.arguments(stateName + "earnedAfter", state, 0, 240, (x, n) -> x.earnedAfter(n));
        Bounds.arguments(stateName + "truncate", state, 0, Portrait.inputLength(state), (x, n) -> x.truncate(n));
        if (valleys > 0) {
            Bounds.arguments(stateName + "setFog", state, 0, 9, (x, n) -> x.setFog(valleys - 1, n));
            Bounds.arguments(stateName + "setPrice", state, 1, 99, (x, n) -> x.setPrice(valleys - 1, n));
            Bounds.arguments(stateName + "neededLoudness", state, 1, 4, (x, n) -> x.neededLoudness(valleys - 1, n));
            Bounds.arguments(stateName + "bestOffer", state, 1, 4, (x, n) -> x.bestOffer(customers - 1, n));
            Bounds.arguments(stateName + "refusal", state, 1, 4,
                    (x, n) -> x.refusal(customers - 1, valleys - 1, n));
        }
    }

    private static void indexFirst() {
        Check.terms(8, "If several exceptions apply to a call, the one that stands first in the throws clause is thrown.");
        for (int n : new int[] {-1, valleys, Integer.MIN_VALUE, Integer.MAX_VALUE}) {
            Bounds.index(stateName + "neededLoudness and order", state, x -> x.neededLoudness(n, 0));
            Bounds.index(stateName + "setFog and fog", state, x -> x.setFog(n, 10));
            Bounds.index(stateName + "setPrice and price", state, x -> x.setPrice(n, 0));
            Bounds.index(stateName + "refusal, valley and order", state, x -> x.refusal(0, n, 5));
            Bounds.index(stateName + "shout, valley, loudness and order", state, x -> x.shout(0, n, 0, 0));
            Bounds.index(stateName + "shout and valley", state, x -> x.shout(0, n, 1, 1));
        }
        for (int n : new int[] {-1, customers, Integer.MIN_VALUE, Integer.MAX_VALUE}) {
            Bounds.index(stateName + "bestOffer and order", state, x -> x.bestOffer(n, 5));
            Bounds.index(stateName + "refusal, customer and order", state, x -> x.refusal(n, 0, 0));
            Bounds.index(stateName + "shout, customer, loudness and order", state, x -> x.shout(n, 0, 21, 5));
            Bounds.index(stateName + "shout and customer", state, x -> x.shout(n, 0, 20, 4));
        }
    }

    private static void argumentBeforeState() {
        Check.terms(8, "If several exceptions apply to a call, the one that stands first in the throws clause is thrown.");
        Supplier<EchoMarket> nameless = () -> {
            EchoMarket x = state.get();
            x.truncate(0);
            return x;
        };
        Bounds.argument(stateName + "addValley without a name, width", nameless, x -> x.addValley(61, 1, 1));
        Bounds.argument(stateName + "addValley without a name, walls", nameless, x -> x.addValley(1, 0, 1));
        Bounds.argument(stateName + "addValley without a name, price", nameless, x -> x.addValley(1, 1, 100));
        Bounds.state(stateName + "addValley without a name", nameless, x -> x.addValley(60, 4, 99));
        Bounds.argument(stateName + "addCustomer without a name, patience", nameless, x -> x.addCustomer(241, 1));
        Bounds.argument(stateName + "addCustomer without a name, money", nameless, x -> x.addCustomer(1, 10000));
        Bounds.state(stateName + "addCustomer without a name", nameless, x -> x.addCustomer(240, 9999));
        Bounds.argument(stateName + "pass and the last second", state, x -> x.pass(241));
        Bounds.argument(stateName + "pass of 0", state, x -> x.pass(0));
        if (shouts > 0) {
            int customer = state.get().shoutCustomer(0);
            int valley = state.get().shoutValley(0);
            Bounds.argument(stateName + "shout and loudness 0", state, x -> x.shout(customer, valley, 0, 1));
            Bounds.argument(stateName + "shout and loudness 21", state, x -> x.shout(customer, valley, 21, 1));
            Bounds.argument(stateName + "shout and order 0", state, x -> x.shout(customer, valley, 1, 0));
            Bounds.argument(stateName + "shout and order 5", state, x -> x.shout(customer, valley, 1, 5));
            Bounds.state(stateName + "shout that is refused", state, x -> x.shout(customer, valley, 1, 1));
        }
    }

    private static void passing() {
        Check.promise(60, "Throws `IllegalStateException` if the time would exceed 9999");
        Bounds.state("pass(1) in the last second", () -> late(), x -> x.pass(1));
        Bounds.state("pass(240) in the last second", () -> late(), x -> x.pass(240));
    }

    private static void closedShouts() {
        Check.promise(55, "Throws `IllegalStateException` if the shout is not open");
        Bounds.state("cancel of a done shout", () -> ordinary(), x -> x.cancel(1));
        Bounds.state("cancel of a cancelled shout", () -> ordinary(), x -> x.cancel(2));
        Bounds.state("cancel of a done shout of thirty", () -> full(), x -> x.cancel(3));
        Check.promise(56, "Throws `IllegalStateException` if the shout is not open");
        Bounds.state("fake of a done shout", () -> ordinary(), x -> x.fake(1));
        Bounds.state("fake of a cancelled shout", () -> ordinary(), x -> x.fake(2));
        Bounds.state("fake of a done shout of thirty", () -> full(), x -> x.fake(3));
    }

    private static void taken() {
        Check.promise(52, "a valley has this name, or there are 8 valleys");
        Bounds.state("a valley's name", () -> ordinary(), x -> x.addValley(1, 1, 1));
        Bounds.taken("a name that no customer has", () -> ordinary(), x -> x.addCustomer(1, 1));
        Bounds.state("a ninth valley", () -> withName(full(), "i"), x -> x.addValley(1, 1, 1));
        Check.promise(53, "a customer has this name, or there are 8 customers");
        Bounds.state("a customer's name", () -> withName(ordinary(), "c"), x -> x.addCustomer(1, 1));
        Bounds.taken("a name that no valley has", () -> withName(ordinary(), "c"), x -> x.addValley(1, 1, 1));
        Bounds.state("a ninth customer", () -> withName(full(), "i"), x -> x.addCustomer(1, 1));
        Check.promise(2, "Throws `IllegalStateException` if the length would exceed 600");
        Bounds.state("feed of a full input", () -> full(), x -> x.feed(0, 0, 0, 0, 0));
    }

    private static EchoMarket withName(EchoMarket x, String name) {
        x.truncate(0);
        return Check.feed(x, name);
    }

    /** Calls that only ask leave everything as it is. */
    private static void asking() {
        Check.terms(8, "A method that throws an exception changes nothing, unless its description says otherwise.");
        Bounds.asksOnly(stateName + "totals", state, x -> x.valleyCount() + x.customerCount() + x.shoutCount() + x.time()
                + x.earned() + x.refunded() + x.held() + x.wellDepth() + x.openShouts());
        Bounds.asksOnly(stateName + "searches", state, x -> x.findValley() + x.findCustomer() + x.bestValley()
                + x.bestCustomer() + x.valleyByName(0) + x.angryCustomers() + x.nextEvent());
        Bounds.asksOnly(stateName + "measures", state, x -> x.violations() + (long) x.meanRating()
                + (long) x.heardFraction() + x.errorCode() + x.errorOffset());
    }
}
