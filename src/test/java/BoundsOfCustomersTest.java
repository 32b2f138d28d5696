import java.util.function.Supplier;

/** Section 2 and the promises on customers: each sentence that names a bound, at it and beyond it. */
public final class BoundsOfCustomersTest {
    public static void main(String[] args) {
        eightCustomers();
        noNinthCustomer();
        uniqueNames();
        lettersOfNames();
        lengthsOfNames();
        patienceAndMoney();
        emptyPurse();
        findingByTheWholeInput();
        addingCustomers();
        askingForACustomer();
        echoesHeard();
        heldFor();
        bestCustomer();
        Check.end();
    }

    private static EchoMarket customers(int count) {
        EchoMarket x = new EchoMarket();
        for (int i = 0; i < count; i++) {
            Check.feed(x, nameOf(i)).addCustomer(i + 1, i);
        }
        return x;
    }

    private static String nameOf(int number) {
        return "c" + (char) ('a' + number);
    }

    private static void eightCustomers() {
        Check.terms(2, "There are at most 8 customers, numbered from 0 in the order in which they were added.");
        Check.due("customers of a new market", new EchoMarket().customerCount(), 0);
        EchoMarket x = new EchoMarket();
        for (int i = 0; i < 8; i++) {
            Check.feed(x, nameOf(i));
            Check.due("addCustomer", x.addCustomer(i + 1, i), i);
            Check.due("customerCount", x.customerCount(), i + 1);
        }
        for (int i = 0; i < 8; i++) {
            Check.due("patience", x.patience(i), i + 1);
            Check.due("money", x.money(i), i);
            Check.due("findCustomer", Check.feed(x, nameOf(i)).findCustomer(), i);
            x.truncate(0);
        }
        Check.promise(9, "Returns the number of customers.");
        Check.due("customerCount", x.customerCount(), 8);
    }

    private static void noNinthCustomer() {
        Check.promise(53, "or there are 8 customers");
        Bounds.state("a ninth customer", () -> Check.feed(customers(8), "ninth"), x -> x.addCustomer(1, 1));
        Bounds.taken("an eighth customer", () -> Check.feed(customers(7), "eighth"), x -> x.addCustomer(1, 1));
        EchoMarket x = customers(8);
        x.undo();
        Check.due("an eighth customer after undo", Check.feed(x, "again").addCustomer(240, 9999), 7);
    }

    private static void uniqueNames() {
        Check.promise(53, "a customer has this name");
        Bounds.state("the name of the first customer", () -> Check.feed(customers(7), "ca"), x -> x.addCustomer(1, 1));
        Bounds.state("the name of the last customer", () -> Check.feed(customers(7), "cg"), x -> x.addCustomer(1, 1));
        Bounds.taken("another name", () -> Check.feed(customers(7), "ch"), x -> x.addCustomer(1, 1));
        Bounds.taken("the beginning of a name", () -> Check.feed(customers(7), "c"), x -> x.addCustomer(1, 1));
        Bounds.taken("a longer name", () -> Check.feed(customers(7), "caa"), x -> x.addCustomer(1, 1));
        Supplier<EchoMarket> eightLetters = () -> Check.described("market;customer abcdefgh 1 1;");
        Bounds.state("the same eight letters", () -> Check.feed(eightLetters.get(), "abcdefgh"),
                x -> x.addCustomer(1, 1));
        Bounds.taken("another eighth letter", () -> Check.feed(eightLetters.get(), "abcdefgi"),
                x -> x.addCustomer(1, 1));
        Bounds.taken("another first letter", () -> Check.feed(eightLetters.get(), "bbcdefgh"),
                x -> x.addCustomer(1, 1));
        Bounds.taken("the name of a valley", () -> Check.feed(Check.described("market;valley v 1 1 1;"), "v"),
                x -> x.addCustomer(1, 1));
        EchoMarket x = Check.feed(new EchoMarket(), "c");
        x.addCustomer(1, 1);
        x.undo();
        Check.due("a name that was undone", Check.feed(x, "c").addCustomer(2, 2), 0);
    }

    private static void lettersOfNames() {
        Check.promise(53, "if the input buffer is not 1 to 8 letters a to z");
        for (int sign = 0; sign < 256; sign++) {
            String one = "" + (char) sign;
            for (String name : new String[] {one, "a" + one, one + "a", "abcdefg" + one}) {
                EchoMarket x = Check.feed(new EchoMarket(), name);
                boolean isLetter = sign >= 'a' && sign <= 'z';
                Check.due("addCustomer with the byte " + sign, Check.answer(() -> x.addCustomer(1, 1)),
                        isLetter ? "0" : IllegalStateException.class.getName());
                Check.due("customerCount", x.customerCount(), isLetter ? 1 : 0);
            }
        }
    }

    private static void lengthsOfNames() {
        Check.promise(53, "if the input buffer is not 1 to 8 letters a to z");
        for (int length : new int[] {1, 2, 7, 8}) {
            EchoMarket x = Check.feed(new EchoMarket(), "z".repeat(length));
            Check.due("addCustomer with " + length + " letters", x.addCustomer(1, 1), 0);
            Check.due("the input is empty", x.feed(0, 0, 0, 0, 0), 20);
            x.truncate(0);
            Check.due("findCustomer", Check.feed(x, "z".repeat(length)).findCustomer(), 0);
        }
        for (int length : new int[] {0, 9, 10, 16, 17, 256, 257, 264, 599, 600}) {
            Bounds.state("addCustomer with " + length + " letters",
                    () -> Check.feed(new EchoMarket(), "z".repeat(length)), x -> x.addCustomer(1, 1));
        }
    }

    private static void patienceAndMoney() {
        Check.terms(2, "a patience from 1 to 240 seconds and money, which is 0 to 9999 when the customer is added");
        Supplier<EchoMarket> named = () -> Check.feed(customers(2), "name");
        Bounds.arguments("addCustomer: patience", named, 1, 240, (x, n) -> x.addCustomer(n, 1));
        Bounds.arguments("addCustomer: money", named, 0, 9999, (x, n) -> x.addCustomer(1, n));
        EchoMarket x = Check.feed(new EchoMarket(), "least");
        x.addCustomer(1, 0);
        Check.feed(x, "most").addCustomer(240, 9999);
        Check.due("patience", x.patience(0) * 1000 + x.patience(1), 1240);
        Check.due("money", x.money(0) * 10000 + x.money(1), 9999);
    }

    private static void emptyPurse() {
        Check.terms(2, "money, which is 0 to 9999 when the customer is added");
        EchoMarket x = Check.described("market;valley v 1 4 99;customer c 9 396;customer d 9 0;shout c v 1 4;");
        Check.due("all money is paid", x.money(0), 0);
        x.pass(4);
        Check.due("all money is refunded", x.money(0), 396);
        Check.due("no money buys nothing", x.refusal(1, 0, 1), 3);
    }

    private static void findingByTheWholeInput() {
        Check.promise(27, "Finds the customer whose name equals the whole input buffer, which is kept.");
        EchoMarket x = Check.described("market;customer abcdefgh 1 1;customer a 1 1;");
        String[] texts = {"", "a", "b", "aa", "a ", " a", "a\n", "a\0", "\0a", "A", "abcdefg", "abcdefgh", "abcdefghi",
                "abcdefgha", "abcdefgh ", "zbcdefgh", "a".repeat(600), "\u00e1"};
        int[] due = {-1, 1, -1, -1, -1, -1, -1, -1, -1, -1, -1, 0, -1, -1, -1, -1, -1, -1};
        for (int i = 0; i < texts.length; i++) {
            Check.feed(x, texts[i]);
            Check.due("findCustomer of " + texts[i], x.findCustomer(), due[i]);
            Check.due("it is kept", x.findCustomer(), due[i]);
            int length = texts[i].length();
            Check.argument("it is no longer", () -> x.truncate(length + 1));
            Check.due("its length", x.truncate(length), length);
            x.truncate(0);
        }
        Bounds.asksOnly("findCustomer", () -> Check.feed(customers(2), "cb"), y -> y.findCustomer());
        Check.promise(27, "Returns the number of the customer; NONE if there is none.");
        Check.due("findCustomer without customers", Check.feed(new EchoMarket(), "a").findCustomer(), -1);
        Check.due("findCustomer without customers and input", new EchoMarket().findCustomer(), -1);
        EchoMarket y = Check.feed(customers(2), "cb");
        y.undo();
        Check.due("findCustomer of a customer who was undone", y.findCustomer(), -1);
    }

    private static void addingCustomers() {
        Check.promise(53, "The name is the whole input buffer, which is then emptied.");
        EchoMarket x = Check.feed(new EchoMarket(), "abc");
        x.addCustomer(1, 1);
        Check.argument("the input is empty", () -> x.truncate(1));
        Check.promise(53, "Throws `IllegalArgumentException` if patience or money is out of range");
        Bounds.argument("addCustomer with a wrong patience and no name", () -> customers(8), y -> y.addCustomer(0, 1));
        Bounds.argument("addCustomer with wrong money and no name", () -> customers(8), y -> y.addCustomer(1, -1));
    }

    private static void askingForACustomer() {
        Check.promise(28, "Throws `IndexOutOfBoundsException` if customer is invalid");
        Bounds.indices("money", () -> customers(3), 3, (x, n) -> x.money(n));
        Check.promise(29, "Throws `IndexOutOfBoundsException` if customer is invalid");
        Bounds.indices("patience", () -> customers(3), 3, (x, n) -> x.patience(n));
        Check.promise(30, "Throws `IndexOutOfBoundsException` if customer is invalid");
        Bounds.indices("suspicion", () -> customers(3), 3, (x, n) -> x.suspicion(n));
        Check.promise(31, "Throws `IndexOutOfBoundsException` if customer is invalid");
        Bounds.indices("isAngry", () -> customers(3), 3, (x, n) -> x.isAngry(n) ? 1 : 0);
        Check.promise(32, "Throws `IndexOutOfBoundsException` if customer is invalid");
        Bounds.indices("echoesHeard", () -> customers(3), 3, (x, n) -> x.echoesHeard(n));
        Check.promise(33, "Throws `IndexOutOfBoundsException` if customer is invalid");
        Bounds.indices("heldFor", () -> customers(3), 3, (x, n) -> x.heldFor(n));
    }

    private static void echoesHeard() {
        Check.promise(32, "Returns the number of heard echoes, faked ones included.");
        EchoMarket x = Check.described("market;valley v 1 4 1;valley w 1 4 1;customer c 99 99;customer d 99 99;");
        Check.due("before a shout", x.echoesHeard(0), 0);
        Check.script(x, "shout c v 4 2;shout c w 20 4;shout d v 20 1;pass 2;");
        Check.due("three heard and one lost", x.echoesHeard(0), 3);
        Check.script(x, "fake 1;well 1;fake 1;");
        Check.due("a lost fake and a heard one", x.echoesHeard(0), 4);
        Check.due("the other customer", x.echoesHeard(1), 1);
    }

    private static void heldFor() {
        Check.promise(33, "Returns the sum of the prices of all echoes that have not returned yet, of all open shouts "
                + "of the customer.");
        EchoMarket x = Check.described("market;valley v 1 4 99;valley w 2 4 7;customer c 3 999;customer d 99 999;");
        Check.due("without a shout", x.heldFor(0), 0);
        Check.script(x, "shout c v 3 4;price v 1;shout c w 20 4;shout d v 20 1;");
        Check.due("before a return", x.heldFor(0), 424);
        x.pass(2);
        Check.due("a heard and two lost echoes", x.heldFor(0), 219);
        x.fake(0);
        Check.due("a faked echo", x.heldFor(0), 120);
        x.pass(1);
        Check.due("a done and a cancelled shout", x.heldFor(0), 0);
        Check.due("the other customer", x.heldFor(1), 0);
    }

    private static void bestCustomer() {
        Check.promise(35, "Returns the customer who has heard the most echoes, of several the one with the smallest "
                + "number; NONE if there is no customer.");
        Check.due("no customer", new EchoMarket().bestCustomer(), -1);
        Check.due("one customer", customers(1).bestCustomer(), 0);
        Check.due("eight equal customers", customers(8).bestCustomer(), 0);
        EchoMarket x = Check.described("market;valley v 1 4 1;customer b 99 99;customer c 99 99;customer d 99 99;");
        Check.script(x, "shout d v 20 1;pass 1;");
        Check.due("the last one", x.bestCustomer(), 2);
        Check.script(x, "shout c v 20 1;pass 1;");
        Check.due("the smaller number of two equal ones", x.bestCustomer(), 1);
        Check.script(x, "shout d v 20 1;pass 1;");
        Check.due("one echo more", x.bestCustomer(), 2);
    }
}
