/** The promises 1 to 42 in the order of the document, each with all its words and answers worked out by hand. */
public final class Promises1To42Test {
    private static final String MARKET =
            "market; valley zug 10 3 5; valley alp 7 4 9; customer ann 25 100; customer bob 60 50;";
    private static final String TWO_SHOUTS = "shout ann zug 7 2; shout bob alp 5 3;";
    private static final int[] NO_NUMBERS = {Integer.MIN_VALUE, -1, 2, 3, 256, Integer.MAX_VALUE};

    public static void main(String[] args) {
        aNewObject();
        feeding();
        truncating();
        readingTexts();
        runningScripts();
        errors();
        counts();
        sums();
        wellAndOpenShouts();
        namesOfValleys();
        numbersOfValleys();
        echoesOfValleys();
        bestValley();
        ranksOfNames();
        findingCustomers();
        numbersOfCustomers();
        angerOfCustomers();
        echoesOfCustomers();
        numbersOfShouts();
        statesOfShouts();
        secondsOfShouts();
        Check.end();
    }

    private static EchoMarket market() {
        return Check.described(MARKET);
    }

    /** Echoes have come at 7 (bob, 9), 10 (ann, 5) and 14 (bob, 9); at 20 ann and at 21 bob will have the last one. */
    private static EchoMarket at(int second) {
        EchoMarket x = Check.described(MARKET + TWO_SHOUTS);
        x.pass(second);
        return x;
    }

    /** A query of a number, of which there are two: 0 and 1. */
    interface Query {
        long of(int number);
    }

    private static void both(String call, Query query, long first, long second) {
        Check.due(call + " of 0", query.of(0), first);
        Check.due(call + " of 1", query.of(1), second);
        for (int number : NO_NUMBERS) {
            Check.index(call + " of " + number, () -> query.of(number));
        }
    }

    // ---- a new object and its input

    private static void aNewObject() {
        Check.promise(1, "Creates a market without valleys and customers, with time 0, an empty input buffer, empty "
                + "output and no saved state.");
        EchoMarket x = new EchoMarket();
        Check.due("valleyCount", x.valleyCount(), 0);
        Check.due("customerCount", x.customerCount(), 0);
        Check.due("shoutCount", x.shoutCount(), 0);
        Check.due("time", x.time(), 0);
        Check.due("errorCode", x.errorCode(), 0);
        Check.due("errorOffset", x.errorOffset(), EchoMarket.NONE);
        Check.argument("truncate to 1", () -> x.truncate(1));
        Check.due("truncate to 0", x.truncate(0), 0);
        Check.index("outputByte", () -> x.outputByte(0));
        Check.state("restoreState", x::restoreState);
        Check.state("undo", x::undo);
    }

    private static void feeding() {
        Check.promise(2, "Appends 20 bytes to the input buffer: the four bytes of each argument, most significant "
                + "byte first. Returns the new length of the input buffer.");
        EchoMarket x = new EchoMarket();
        Check.due("feed", x.feed(0x6d61726b, 0x65743b77, 0x656c6c20, 0x353b7061, 0x73732036), 20);
        Check.due("feed", x.feed(0x3b202020, 0x20202020, 0x20202020, 0x20202020, 0x20202020), 40);
        Check.due("readText of market;well 5;pass 6;", x.readText(), 0);
        Check.due("wellDepth", x.wellDepth(), 5);
        Check.due("time", x.time(), 6);
        Check.promise(2, "Throws `IllegalStateException` if the length would exceed 600");
        for (int i = 1; i <= 30; i++) {
            Check.due("feed", x.feed(-1, Integer.MIN_VALUE, Integer.MAX_VALUE, 0, 1), 20 * i);
        }
        Check.state("feed", () -> x.feed(0, 0, 0, 0, 0));
        Check.due("truncate", x.truncate(580), 580);
        Check.due("feed", x.feed(0, 0, 0, 0, 0), 600);
        Check.due("truncate", x.truncate(581), 581);
        Check.state("feed", () -> x.feed(0, 0, 0, 0, 0));
    }

    private static void truncating() {
        Check.promise(3, "Truncates the input buffer. - `length`: new length, 0 to the current length Returns the new "
                + "length. Throws `IllegalArgumentException` if length is out of range");
        EchoMarket x = Check.feed(market(), "zugabe");
        Check.argument("truncate", () -> x.truncate(7));
        Check.argument("truncate", () -> x.truncate(-1));
        Check.argument("truncate", () -> x.truncate(Integer.MIN_VALUE));
        Check.argument("truncate", () -> x.truncate(Integer.MAX_VALUE));
        Check.due("truncate", x.truncate(6), 6);
        Check.due("findValley of zugabe", x.findValley(), EchoMarket.NONE);
        Check.due("truncate", x.truncate(3), 3);
        Check.due("findValley of zug", x.findValley(), 0);
        Check.argument("truncate", () -> x.truncate(4));
        Check.due("truncate", x.truncate(0), 0);
    }

    // ---- texts

    private static void readingTexts() {
        Check.promise(4, "Parses the input buffer as a description, which replaces everything except the output and "
                + "the saved state. The input buffer is emptied, also on an error. Afterwards nothing can be undone. "
                + "Returns the number of shouts that have been sold.");
        EchoMarket x = at(14);
        Check.due("printReceipt", x.printReceipt(0), 13);
        Check.due("saveState", x.saveState(), 14);
        Check.feed(x, "market; valley tal 1 1 1; customer cid 9 9; shout cid tal 20 1; pass 3; shout cid tal 1 1;");
        Check.due("readText", x.readText(), 2);
        Check.due("valleyCount", x.valleyCount(), 1);
        Check.due("customerCount", x.customerCount(), 1);
        Check.due("time", x.time(), 3);
        Check.due("earned", x.earned(), 1);
        Check.argument("truncate of the emptied input", () -> x.truncate(1));
        Check.state("undo", x::undo);
        Check.due("output", Check.output(x, 13), "ann@zug h. 5\n");
        Check.due("restoreState", x.restoreState(), 14);
        Check.promise(4, "Throws `IllegalArgumentException` if the text has an error; then only the input buffer and "
                + "the error change");
        x.setWell(9);
        Check.feed(x, "market; valley tal 1 1 1; well 21;");
        Check.argument("readText", x::readText);
        Check.due("valleyCount", x.valleyCount(), 2);
        Check.due("wellDepth", x.wellDepth(), 9);
        Check.due("errorCode", x.errorCode(), 2);
        Check.due("errorOffset", x.errorOffset(), 31);
        Check.argument("truncate of the emptied input", () -> x.truncate(1));
        Check.due("undo", x.undo(), 0);
        Check.due("wellDepth", x.wellDepth(), 0);
    }

    private static void runningScripts() {
        Check.promise(5, "Parses the input buffer as a script and executes it. The input buffer is emptied, also on "
                + "an error. Undoable. Returns the number of executed commands, \"repeat\" not counted.");
        EchoMarket x = market();
        Check.feed(x, "shout bob alp 5 3; repeat 3 (pass 5; well 2;); fake 0; cancel 0; price zug 6; fog alp 1;");
        Check.due("runScript", x.runScript(), 8);
        Check.due("time", x.time(), 15);
        Check.due("wellDepth", x.wellDepth(), 2);
        Check.due("suspicion", x.suspicion(1), 1);
        Check.due("price", x.price(0), 5);
        Check.argument("truncate of the emptied input", () -> x.truncate(1));
        Check.due("undo", x.undo(), 0);
        Check.due("time", x.time(), 0);
        Check.due("shoutCount", x.shoutCount(), 0);
        Check.due("wellDepth", x.wellDepth(), 0);
        Check.promise(5, "Throws `IllegalArgumentException` if the text has an error; then only the input buffer and "
                + "the error change");
        Check.feed(x, "well 3; pass 5");
        Check.argument("runScript", x::runScript);
        Check.due("wellDepth", x.wellDepth(), 0);
        Check.due("errorCode", x.errorCode(), 1);
        Check.due("errorOffset", x.errorOffset(), 14);
        Check.argument("truncate of the emptied input", () -> x.truncate(1));
        Check.state("undo", x::undo);
    }

    private static void errors() {
        Check.promise(6, "Returns the error code of the latest call of readText() or runScript(). Returns the code; 0 "
                + "if that text had no error or there was no such call.");
        error(new EchoMarket(), 0, EchoMarket.NONE);
        EchoMarket x = market();
        error(x, 0, EchoMarket.NONE);
        Check.due("runScript", Check.run(x, "fog tal 1;"), "4@4");
        error(x, 4, 4);
        Check.due("readText", Check.read(x, "market;valley a 0 1 1;"), "2@16");
        error(x, 2, 16);
        x.setWell(1);
        Check.index("price", () -> x.price(9));
        error(x, 2, 16);
        Check.promise(7, "Returns the error offset of the latest call of readText() or runScript(). Returns the "
                + "offset; NONE if that text had no error or there was no such call.");
        Check.due("runScript", Check.run(x, "well 1;"), "1");
        error(x, 0, EchoMarket.NONE);
        Check.due("readText", Check.read(x, ""), "1@0");
        error(x, 1, 0);
        Check.due("readText", Check.read(x, MARKET), "0");
        error(x, 0, EchoMarket.NONE);
    }

    private static void error(EchoMarket x, int code, int offset) {
        Check.due("errorCode", x.errorCode(), code);
        Check.due("errorOffset", x.errorOffset(), offset);
    }

    // ---- totals

    private static void counts() {
        EchoMarket x = at(14);
        Check.promise(8, "Returns the number of valleys.");
        Check.due("valleyCount", x.valleyCount(), 2);
        Check.promise(9, "Returns the number of customers.");
        Check.due("customerCount", x.customerCount(), 2);
        Check.promise(10, "Returns the number of shouts that have been sold.");
        Check.due("shoutCount", x.shoutCount(), 2);
        x.cancel(0);
        Check.due("shoutCount with a cancelled shout", x.shoutCount(), 2);
        x.pass(9);
        Check.due("shoutCount with a done shout", x.shoutCount(), 2);
        Check.promise(11, "Returns the time.");
        Check.due("time", x.time(), 23);
    }

    private static void sums() {
        Check.promise(12, "Returns the sum of all prices of echoes that have been earned.");
        Check.due("earned at 6", at(6).earned(), 0);
        Check.due("earned at 7", at(7).earned(), 9);
        Check.due("earned at 10", at(10).earned(), 14);
        Check.due("earned at 14", at(14).earned(), 23);
        Check.due("earned at 21", at(21).earned(), 28);
        Check.promise(13, "Returns the sum of all refunds.");
        Check.due("refunded at 20", at(20).refunded(), 0);
        Check.due("refunded at 21", at(21).refunded(), 9);
        EchoMarket x = at(7);
        x.cancel(0);
        Check.due("refunded with a cancelled shout", x.refunded(), 10);
        Check.promise(14, "Returns the amount that the market holds.");
        Check.due("held", x.held(), 18);
        Check.due("held in the beginning", at(1).held(), 37);
        Check.due("held at 14", at(14).held(), 14);
        Check.due("held in the end", at(21).held(), 0);
    }

    private static void wellAndOpenShouts() {
        Check.promise(15, "Returns the depth of the well.");
        EchoMarket x = at(19);
        Check.due("wellDepth", x.wellDepth(), 0);
        x.setWell(20);
        Check.due("wellDepth", x.wellDepth(), 20);
        Check.promise(16, "Returns the number of open shouts.");
        Check.due("openShouts at 19", x.openShouts(), 2);
        Check.due("openShouts at 20", at(20).openShouts(), 1);
        Check.due("openShouts at 21", at(21).openShouts(), 0);
        x.cancel(1);
        Check.due("openShouts with a cancelled shout", x.openShouts(), 1);
    }

    // ---- valleys

    private static void namesOfValleys() {
        Check.promise(17, "Returns a byte of the name of a valley. - `valley`: number of a valley - `index`: index "
                + "into the name, any int Returns the byte; NONE if the name has no such byte. Throws "
                + "`IndexOutOfBoundsException` if valley is invalid");
        EchoMarket x = market();
        both("valleyByte 0", v -> x.valleyByte(v, 0), 'z', 'a');
        both("valleyByte 2", v -> x.valleyByte(v, 2), 'g', 'p');
        for (int index : new int[] {3, 7, 8, -1, 64, 256, Integer.MIN_VALUE, Integer.MAX_VALUE}) {
            both("valleyByte " + index, v -> x.valleyByte(v, index), EchoMarket.NONE, EchoMarket.NONE);
        }
        Check.promise(18, "Finds the valley whose name equals the whole input buffer, which is kept. Returns the "
                + "number of the valley; NONE if there is none.");
        for (String other : new String[] {"", "z", "zu", "zugs", "Zug", " zug", "zug ", "ann", "market"}) {
            Check.due("findValley of " + other, Check.feed(market(), other).findValley(), EchoMarket.NONE);
        }
        Check.feed(x, "alp");
        Check.due("findValley", x.findValley(), 1);
        Check.due("findValley again", x.findValley(), 1);
        Check.due("the kept input", x.truncate(3), 3);
    }

    private static void numbersOfValleys() {
        EchoMarket x = market();
        Check.promise(19, "Returns the width of a valley. - `valley`: number of a valley Returns the width. Throws "
                + "`IndexOutOfBoundsException` if valley is invalid");
        both("width", x::width, 10, 7);
        Check.promise(20, "Returns the number of walls of a valley. - `valley`: number of a valley Returns the number "
                + "of walls. Throws `IndexOutOfBoundsException` if valley is invalid");
        both("walls", x::walls, 3, 4);
        Check.promise(21, "Returns the price of an echo in a valley. - `valley`: number of a valley Returns the "
                + "price. Throws `IndexOutOfBoundsException` if valley is invalid");
        both("price", x::price, 5, 9);
        x.setPrice(1, 8);
        both("price", x::price, 5, 8);
    }

    private static void echoesOfValleys() {
        Check.promise(22, "Returns the rating of a valley. - `valley`: number of a valley Returns the rating. Throws "
                + "`IndexOutOfBoundsException` if valley is invalid");
        both("rating at 6", at(6)::rating, 10, 10);
        both("rating at 14", at(14)::rating, 11, 12);
        both("rating at 21", at(21)::rating, 12, 10);
        Check.promise(23, "Counts the echoes that have been lost in a valley. - `valley`: number of a valley Returns "
                + "the number of lost echoes of all shouts in this valley, faked ones included. Throws "
                + "`IndexOutOfBoundsException` if valley is invalid");
        both("echoesLost at 20", at(20)::echoesLost, 0, 0);
        both("echoesLost at 21", at(21)::echoesLost, 0, 1);
        EchoMarket x = at(10);
        x.fake(0);
        x.fake(1);
        x.shout(0, 1, 20, 1);
        x.fake(2);
        both("echoesLost with a dry well", x::echoesLost, 1, 2);
        Check.promise(24, "Returns what has been earned in a valley. - `valley`: number of a valley Returns the sum "
                + "of the prices of the heard echoes of all shouts in this valley. Throws "
                + "`IndexOutOfBoundsException` if valley is invalid");
        both("earnedIn", x::earnedIn, 5, 9);
        both("earnedIn at 14", at(14)::earnedIn, 5, 18);
        both("earnedIn at 21", at(21)::earnedIn, 10, 18);
    }

    private static void bestValley() {
        Check.promise(25, "Returns the valley with the greatest rating, of several the one with the smallest price of "
                + "an echo, and of these the one with the smallest number; NONE if there is no valley.");
        Check.due("bestValley of none", new EchoMarket().bestValley(), EchoMarket.NONE);
        Check.due("bestValley by price", at(6).bestValley(), 0);
        Check.due("bestValley by rating", at(14).bestValley(), 1);
        Check.due("bestValley by rating", at(21).bestValley(), 0);
        EchoMarket x = market();
        x.setPrice(0, 9);
        Check.due("bestValley by number", x.bestValley(), 0);
        x.setPrice(1, 8);
        Check.due("bestValley by price", x.bestValley(), 1);
    }

    private static void ranksOfNames() {
        Check.promise(26, "Returns the valley at a rank by name. - `rank`: 0 for the name that comes first in "
                + "alphabetical order, any int Returns the number of the valley; NONE if there is no such rank.");
        EchoMarket x = Check.described("market; valley b 1 1 1; valley zz 1 1 1; valley ab 1 1 1; valley a 1 1 1;"
                + "valley abc 1 1 1; valley z 1 1 1; valley aa 1 1 1; valley azzzzzzz 1 1 1;");
        int[] order = {3, 6, 2, 4, 7, 0, 5, 1};
        for (int rank = 0; rank < order.length; rank++) {
            Check.due("valleyByName of " + rank, x.valleyByName(rank), order[rank]);
        }
        for (int rank : new int[] {-1, 8, Integer.MIN_VALUE, Integer.MAX_VALUE}) {
            Check.due("valleyByName of " + rank, x.valleyByName(rank), EchoMarket.NONE);
        }
        Check.due("valleyByName of none", new EchoMarket().valleyByName(0), EchoMarket.NONE);
    }

    // ---- customers

    private static void findingCustomers() {
        Check.promise(27, "Finds the customer whose name equals the whole input buffer, which is kept. Returns the "
                + "number of the customer; NONE if there is none.");
        for (String other : new String[] {"", "a", "an", "anna", "ANN", " ann", "ann\n", "zug"}) {
            Check.due("findCustomer of " + other, Check.feed(market(), other).findCustomer(), EchoMarket.NONE);
        }
        EchoMarket x = Check.feed(market(), "bob");
        Check.due("findCustomer", x.findCustomer(), 1);
        Check.due("the kept input", x.truncate(3), 3);
    }

    private static void numbersOfCustomers() {
        Check.promise(28, "Returns the money of a customer. - `customer`: number of a customer Returns the money. "
                + "Throws `IndexOutOfBoundsException` if customer is invalid");
        both("money in the beginning", market()::money, 100, 50);
        both("money at 1", at(1)::money, 90, 23);
        both("money at 14", at(14)::money, 90, 23);
        both("money at 21", at(21)::money, 90, 32);
        Check.promise(29, "Returns the patience of a customer. - `customer`: number of a customer Returns the "
                + "patience. Throws `IndexOutOfBoundsException` if customer is invalid");
        both("patience", at(14)::patience, 25, 60);
    }

    private static void angerOfCustomers() {
        EchoMarket x = market();
        x.setWell(1);
        x.shout(1, 1, 1, 4);
        x.fake(0);
        x.fake(0);
        Check.promise(30, "Returns the suspicion of a customer. - `customer`: number of a customer Returns the "
                + "suspicion. Throws `IndexOutOfBoundsException` if customer is invalid");
        both("suspicion", x::suspicion, 0, 2);
        Check.promise(31, "Tells whether a customer is angry. - `customer`: number of a customer Returns whether the "
                + "customer is angry. Throws `IndexOutOfBoundsException` if customer is invalid");
        both("isAngry", c -> x.isAngry(c) ? 1 : 0, 0, 0);
        Check.promise(34, "Returns the set of the angry customers as a bit mask: bit i stands for customer i.");
        Check.due("angryCustomers", x.angryCustomers(), 0);
        x.fake(0);
        both("suspicion", x::suspicion, 0, 3);
        both("isAngry", c -> x.isAngry(c) ? 1 : 0, 0, 1);
        Check.due("angryCustomers", x.angryCustomers(), 2);
    }

    private static void echoesOfCustomers() {
        Check.promise(32, "Counts the echoes that a customer has heard. - `customer`: number of a customer Returns "
                + "the number of heard echoes, faked ones included. Throws `IndexOutOfBoundsException` if customer is "
                + "invalid");
        EchoMarket x = at(14);
        both("echoesHeard", x::echoesHeard, 1, 2);
        Check.promise(33, "Returns what the market holds for a customer. - `customer`: number of a customer Returns "
                + "the sum of the prices of all echoes that have not returned yet, of all open shouts of the "
                + "customer. Throws `IndexOutOfBoundsException` if customer is invalid");
        both("heldFor", x::heldFor, 5, 9);
        x.setPrice(0, 7);
        x.shout(1, 0, 20, 2);
        both("heldFor", x::heldFor, 5, 23);
        x.cancel(1);
        both("heldFor with a cancelled shout", x::heldFor, 5, 14);
        Check.promise(35, "Returns the customer who has heard the most echoes, of several the one with the smallest "
                + "number; NONE if there is no customer.");
        Check.due("bestCustomer", x.bestCustomer(), 1);
        x.setWell(20);
        x.fake(0);
        both("echoesHeard with a fake", x::echoesHeard, 2, 2);
        Check.due("bestCustomer of two", x.bestCustomer(), 0);
        Check.due("bestCustomer of none", new EchoMarket().bestCustomer(), EchoMarket.NONE);
    }

    // ---- shouts

    private static void numbersOfShouts() {
        EchoMarket x = market();
        x.shout(1, 0, 1, 1);
        x.shout(0, 1, 1, 1);
        Check.promise(36, "Returns the customer of a shout. - `shout`: number of a shout Returns the customer. Throws "
                + "`IndexOutOfBoundsException` if shout is invalid");
        both("shoutCustomer", x::shoutCustomer, 1, 0);
        Check.promise(37, "Returns the valley of a shout. - `shout`: number of a shout Returns the valley. Throws "
                + "`IndexOutOfBoundsException` if shout is invalid");
        both("shoutValley", x::shoutValley, 0, 1);
    }

    private static void statesOfShouts() {
        Check.promise(38, "Returns the state of a shout. - `shout`: number of a shout Returns 0 open, 1 done, 2 "
                + "cancelled. Throws `IndexOutOfBoundsException` if shout is invalid");
        both("shoutState at 19", at(19)::shoutState, 0, 0);
        both("shoutState at 20", at(20)::shoutState, 1, 0);
        both("shoutState at 21", at(21)::shoutState, 1, 1);
        EchoMarket x = at(14);
        x.cancel(1);
        both("shoutState", x::shoutState, 0, 2);
        Check.promise(39, "Counts the returns of a shout. - `shout`: number of a shout Returns the number of echoes "
                + "that have returned, heard or lost, faked or not. Throws `IndexOutOfBoundsException` if shout is "
                + "invalid");
        both("returns of a cancelled shout", x::returns, 1, 2);
        x.fake(0);
        both("returns with a fake", x::returns, 2, 2);
        both("returns at 21", at(21)::returns, 2, 3);
        Check.promise(40, "Returns the receipt of a shout. - `shout`: number of a shout Returns the sum of the prices "
                + "of its heard echoes. Throws `IndexOutOfBoundsException` if shout is invalid");
        both("receipt", x::receipt, 5, 18);
        both("receipt at 6", at(6)::receipt, 0, 0);
        both("receipt at 21", at(21)::receipt, 10, 18);
    }

    private static void secondsOfShouts() {
        Check.promise(41, "Returns the second of the next return of a shout. - `shout`: number of a shout Returns the "
                + "second in which it returns next if only seconds pass and the customer does not lose patience "
                + "before; NONE if the shout is not open. Throws `IndexOutOfBoundsException` if shout is invalid");
        both("nextReturn at 6", at(6)::nextReturn, 10, 7);
        both("nextReturn at 7", at(7)::nextReturn, 10, 14);
        both("nextReturn at 20", at(20)::nextReturn, EchoMarket.NONE, 21);
        EchoMarket x = at(6);
        x.shout(0, 1, 1, 4);
        x.fake(0);
        x.fake(2);
        Check.due("nextReturn behind a fake", x.nextReturn(0), 20);
        Check.due("nextReturn behind a fake", x.nextReturn(2), 20);
        x.cancel(0);
        Check.due("nextReturn of a cancelled shout", x.nextReturn(0), EchoMarket.NONE);
        Check.promise(42, "Returns the second in which the customer of a shout would lose patience. - `shout`: number "
                + "of a shout Returns the second of its sale plus the patience of its customer, whatever its state "
                + "is. Throws `IndexOutOfBoundsException` if shout is invalid");
        Check.due("patienceEnds of a cancelled shout", x.patienceEnds(0), 25);
        Check.due("patienceEnds of a shout sold at 6", x.patienceEnds(2), 31);
        both("patienceEnds", at(21)::patienceEnds, 25, 60);
    }
}
