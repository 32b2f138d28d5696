/** Promises 9, 27 to 35 and 53: customers. */
public final class CustomerTest {
    public static void main(String[] args) {
        adding();
        wrongAdding();
        finding();
        money();
        hearing();
        invalid();
        Check.end();
    }

    private static void adding() {
        EchoMarket x = Check.feed(new EchoMarket(), "ann");
        Check.due("addCustomer", x.addCustomer(240, 9999), 0);
        Check.argument("the input is empty", () -> x.truncate(1));
        Check.feed(x, "bob");
        Check.due("addCustomer", x.addCustomer(1, 0), 1);
        Check.due("customerCount", x.customerCount(), 2);
        Check.due("patience(0)", x.patience(0), 240);
        Check.due("money(0)", x.money(0), 9999);
        Check.due("suspicion(0)", x.suspicion(0), 0);
        Check.due("isAngry(0)", x.isAngry(0), false);
        Check.due("echoesHeard(0)", x.echoesHeard(0), 0);
        Check.due("heldFor(0)", x.heldFor(0), 0);
        Check.due("patience(1)", x.patience(1), 1);
        Check.due("money(1)", x.money(1), 0);
        Check.due("undo", x.undo(), 1);
        Check.due("customerCount", x.customerCount(), 1);
    }

    private static void wrongAdding() {
        EchoMarket x = Check.feed(new EchoMarket(), "c");
        int[][] wrong = {{0, 1}, {241, 1}, {1, -1}, {1, 10000}, {Integer.MIN_VALUE, 1}, {1, Integer.MAX_VALUE}};
        for (int[] w : wrong) {
            Check.argument("addCustomer " + w[0] + " " + w[1], () -> x.addCustomer(w[0], w[1]));
        }
        Check.due("the name stays", x.truncate(1), 1);
        for (String name : new String[] {"", "abcdefghi", "a b", "a1", "A", "a "}) {
            x.truncate(0);
            Check.feed(x, name);
            Check.state("addCustomer named " + name, () -> x.addCustomer(1, 1));
            Check.argument("argument before state, named " + name, () -> x.addCustomer(0, 1));
            Check.due("the name stays", x.truncate(name.length()), name.length());
        }
        Check.state("nothing to undo", () -> x.undo());
        x.truncate(0);
        Check.feed(x, "c").addCustomer(1, 1);
        Check.feed(x, "c");
        Check.state("a customer with the same name", () -> x.addCustomer(1, 1));
        Check.due("a valley may have it", x.addValley(1, 1, 1), 0);
        for (int i = 1; i < 8; i++) {
            Check.feed(x, "c" + (char) ('a' + i)).addCustomer(1, 1);
        }
        Check.feed(x, "ninth");
        Check.state("a ninth customer", () -> x.addCustomer(1, 1));
        Check.due("customerCount", x.customerCount(), 8);
        Check.due("violations of eight", x.violations(), 0);
        Check.due("angryCustomers of eight", x.angryCustomers(), 0);
        Check.due("bestCustomer of eight", x.bestCustomer(), 0);
    }

    private static void finding() {
        EchoMarket x = Check.described("market;customer ann 1 1;customer an 1 1;valley bob 1 1 1;");
        Check.due("findCustomer ann", Check.feed(x, "ann").findCustomer(), 0);
        Check.due("the input is kept", x.truncate(2), 2);
        Check.due("findCustomer an", x.findCustomer(), 1);
        x.truncate(1);
        Check.due("findCustomer a", x.findCustomer(), -1);
        x.truncate(0);
        Check.due("findCustomer bob", Check.feed(x, "bob").findCustomer(), -1);
        Check.due("findValley bob", x.findValley(), 0);
    }

    private static void money() {
        EchoMarket x = Check.described("market;valley v 5 4 10;valley w 5 4 3;customer c 30 100;customer d 30 50;");
        x.shout(0, 0, 7, 4);
        x.shout(0, 1, 7, 2);
        x.shout(1, 1, 7, 1);
        Check.due("money after sales", x.money(0), 54);
        Check.due("heldFor of two shouts", x.heldFor(0), 46);
        Check.due("heldFor(1)", x.heldFor(1), 3);
        x.setPrice(0, 99);
        x.pass(5);
        Check.due("heldFor after returns", x.heldFor(0), 33);
        Check.due("money does not change by heard echoes", x.money(0), 54);
        x.pass(15);
        Check.due("money after a lost echo", x.money(0), 64);
        Check.due("heldFor at the end", x.heldFor(0), 0);
        Check.due("heldFor(1) at the end", x.heldFor(1), 0);
        x.shout(1, 1, 20, 4);
        x.cancel(3);
        Check.due("heldFor after cancel", x.heldFor(1), 0);
        Check.due("money after cancel", x.money(1), 47);
    }

    private static void hearing() {
        EchoMarket x = Check.described("market;valley v 1 4 1;valley w 1 4 1;customer c 30 100;customer d 30 50;"
                + "customer e 30 50;");
        Check.due("the smallest number of equal ones", x.bestCustomer(), 0);
        Check.script(x, "shout d v 20 1;shout e v 20 1;pass 1;");
        Check.due("echoesHeard(1)", x.echoesHeard(1), 1);
        Check.due("the first of those who heard one", x.bestCustomer(), 1);
        Check.script(x, "shout c v 5 4;shout c w 20 2;pass 4;");
        Check.due("echoesHeard of two shouts, lost ones not counted", x.echoesHeard(0), 4);
        Check.due("the greatest number", x.bestCustomer(), 0);
        Check.script(x, "well 1;shout e v 1 4;fake 4;");
        Check.due("a heard fake counts", x.echoesHeard(2), 2);
        Check.script(x, "well 0;fake 4;");
        Check.due("a lost fake does not count", x.echoesHeard(2), 2);
    }

    private static void invalid() {
        EchoMarket x = Check.described("market;valley a 1 1 5;valley b 1 1 4;valley d 1 1 4;customer m 9 99;"
                + "customer n 9 99;");
        for (int c : new int[] {-1, 2, 8, Integer.MIN_VALUE, Integer.MAX_VALUE}) {
            Check.index("money(" + c + ")", () -> x.money(c));
            Check.index("patience(" + c + ")", () -> x.patience(c));
            Check.index("suspicion(" + c + ")", () -> x.suspicion(c));
            Check.index("isAngry(" + c + ")", () -> x.isAngry(c) ? 1 : 0);
            Check.index("echoesHeard(" + c + ")", () -> x.echoesHeard(c));
            Check.index("heldFor(" + c + ")", () -> x.heldFor(c));
        }
        Check.due("money(1)", x.money(1), 99);
    }
}
