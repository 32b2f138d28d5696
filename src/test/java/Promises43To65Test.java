/** The promises 43 to 65 in the order of the document, each with all its words and answers worked out by hand. */
public final class Promises43To65Test {
    private static final String MARKET =
            "market; valley zug 10 3 5; valley alp 7 4 9; customer ann 25 100; customer bob 60 50;";
    private static final String TWO_SHOUTS = "shout ann zug 7 2; shout bob alp 5 3;";
    private static final int[] NO_NUMBERS = {Integer.MIN_VALUE, -1, 2, 3, 256, Integer.MAX_VALUE};

    public static void main(String[] args) {
        reasonsOfRefusals();
        neededLoudness();
        bestOffers();
        nextEvents();
        futureEarnings();
        finalStates();
        violations();
        measures();
        addingValleys();
        addingCustomers();
        shouting();
        cancelling();
        faking();
        fogAndPrice();
        well();
        passing();
        undoing();
        printing();
        savedState();
        totalsSinceDescribed();
        onlySecondsPass();
        allChangesAreUndoable();
        Check.end();
    }

    private static EchoMarket market() {
        return Check.described(MARKET);
    }

    /** Echoes have come at 7 (bob, 9), 10 (ann, 5) and 14 (bob, 9); at 20 ann and at 21 bob will have the last one. */
    private static EchoMarket at(int second) {
        EchoMarket x = Check.described(MARKET + TWO_SHOUTS);
        x.pass(second);
        return x;
    }

    /** A call with a number. */
    interface Call {
        long of(int number);
    }

    private static void onlyTwo(String call, Call act) {
        for (int number : NO_NUMBERS) {
            Check.index(call + " with the number " + number, () -> act.of(number));
        }
    }

    private static void within(String call, int least, int most, Call act) {
        for (int number : new int[] {Integer.MIN_VALUE, least - 1, most + 1, Integer.MAX_VALUE}) {
            Check.argument(call + " with " + number, () -> act.of(number));
        }
    }

    // ---- explanations

    private static void reasonsOfRefusals() {
        Check.promise(43, "Returns why the sale of a shout would be refused, see sections 3 and 5. - `customer`: "
                + "number of a customer - `valley`: number of a valley - `order`: 1 to 4 Returns 0 to 5.");
        EchoMarket x = at(6);
        Check.due("refusal", x.refusal(0, 1, 4), 0);
        Check.due("refusal by walls", x.refusal(1, 0, 4), 2);
        Check.due("refusal by money", x.refusal(1, 1, 3), 3);
        Check.due("refusal by an open shout", x.refusal(1, 1, 2), 4);
        x.setWell(1);
        x.fake(0);
        x.fake(0);
        x.fake(x.shout(0, 0, 1, 1));
        Check.due("refusal by anger", x.refusal(0, 0, 3), 5);
        Check.due("refusal of the other customer", x.refusal(1, 0, 3), 0);
        EchoMarket y = market();
        y.setWell(1);
        for (int shout = 0; shout < 30; shout++) {
            y.shout(shout % 2, 0, 1, 1);
            y.cancel(shout);
        }
        Check.due("refusal by 30 shouts", y.refusal(1, 0, 4), 1);
        Check.promise(43, "Throws `IndexOutOfBoundsException` if customer or valley is invalid Throws "
                + "`IllegalArgumentException` if order is out of range");
        onlyTwo("refusal", c -> x.refusal(c, 0, 5));
        onlyTwo("refusal", v -> x.refusal(1, v, 0));
        within("refusal", 1, 4, order -> x.refusal(0, 0, order));
    }

    private static void neededLoudness() {
        Check.promise(44, "Returns the smallest loudness with which all echoes of an order would be heard in a valley "
                + "if the fog stayed. - `valley`: number of a valley - `order`: 1 to 4 Returns the loudness, which "
                + "may exceed 20; NONE if the order exceeds the number of walls.");
        EchoMarket x = market();
        Check.due("neededLoudness", x.neededLoudness(0, 1), 3);
        Check.due("neededLoudness", x.neededLoudness(0, 3), 7);
        Check.due("neededLoudness of too large an order", x.neededLoudness(0, 4), EchoMarket.NONE);
        x.setFog(1, 9);
        Check.due("neededLoudness in fog", x.neededLoudness(1, 4), 18);
        Check.due("neededLoudness beside fog", x.neededLoudness(0, 2), 5);
        x.shout(0, 1, x.neededLoudness(1, 2), 2);
        x.shout(1, 1, x.neededLoudness(1, 2) - 1, 2);
        x.pass(14);
        Check.due("receipt", x.receipt(0), 18);
        Check.due("receipt of a shout that is not as loud", x.receipt(1), 9);
        Check.promise(44, "Throws `IndexOutOfBoundsException` if valley is invalid Throws `IllegalArgumentException` "
                + "if order is out of range");
        onlyTwo("neededLoudness", v -> x.neededLoudness(v, 5));
        within("neededLoudness", 1, 4, order -> x.neededLoudness(1, order));
    }

    private static void bestOffers() {
        Check.promise(45, "Finds the valley in which a customer would best buy echoes. - `customer`: number of a "
                + "customer - `order`: 1 to 4 Returns the valley with the smallest price of an echo among those for "
                + "which refusal() is 0 and from whose last wall a shout would return before the customer loses "
                + "patience or in the same second; of several the one with the greatest rating, and of these the one "
                + "with the smallest number; NONE if there is none.");
        EchoMarket x = market();
        Check.due("bestOffer by price", x.bestOffer(0, 2), 0);
        Check.due("bestOffer by patience", x.bestOffer(0, 3), 1);
        Check.due("bestOffer of more patience", x.bestOffer(1, 3), 0);
        Check.due("bestOffer with too little patience", x.bestOffer(0, 4), EchoMarket.NONE);
        x.setPrice(0, 9);
        Check.due("bestOffer by number", x.bestOffer(0, 1), 0);
        x.shout(1, 1, 20, 1);
        x.pass(7);
        Check.due("bestOffer by rating", x.bestOffer(0, 1), 1);
        x.shout(0, 1, 20, 1);
        Check.due("bestOffer beside an open shout", x.bestOffer(0, 1), 0);
        x.setPrice(0, 42);
        Check.due("bestOffer for too little money", x.bestOffer(1, 1), 1);
        Check.due("bestOffer in the same second", Check.described("market;valley a 5 4 1;customer b 20 4;")
                .bestOffer(0, 4), 0);
        Check.due("bestOffer a second later", Check.described("market;valley a 5 4 1;customer b 19 4;")
                .bestOffer(0, 4), EchoMarket.NONE);
        Check.promise(45, "Throws `IndexOutOfBoundsException` if customer is invalid Throws "
                + "`IllegalArgumentException` if order is out of range");
        onlyTwo("bestOffer", c -> x.bestOffer(c, 0));
        within("bestOffer", 1, 4, order -> x.bestOffer(1, order));
    }

    // ---- predictions

    private static void nextEvents() {
        Check.promise(46, "Returns the next second in which a return or a loss of patience happens; NONE if there is "
                + "no open shout.");
        Check.due("nextEvent of no shout", market().nextEvent(), EchoMarket.NONE);
        Check.due("nextEvent at 1", at(1).nextEvent(), 7);
        Check.due("nextEvent at 7", at(7).nextEvent(), 10);
        Check.due("nextEvent at 19", at(19).nextEvent(), 20);
        Check.due("nextEvent at 20", at(20).nextEvent(), 21);
        Check.due("nextEvent at 21", at(21).nextEvent(), EchoMarket.NONE);
        EchoMarket x = market();
        x.shout(0, 0, 20, 3);
        x.pass(20);
        Check.due("nextEvent of lost patience", x.nextEvent(), 25);
        x.pass(5);
        Check.due("nextEvent behind lost patience", x.nextEvent(), EchoMarket.NONE);
    }

    private static void futureEarnings() {
        Check.promise(47, "Predicts the amount that will have been earned. - `seconds`: 0 to 240 Returns earned() "
                + "after that many seconds.");
        EchoMarket x = at(6);
        int[] seconds = {0, 1, 3, 4, 7, 8, 13, 14, 15, 240};
        int[] earned = {0, 9, 9, 14, 14, 23, 23, 28, 28, 28};
        for (int i = 0; i < seconds.length; i++) {
            Check.due("earnedAfter " + seconds[i], x.earnedAfter(seconds[i]), earned[i]);
        }
        x.setFog(1, 3);
        Check.due("earnedAfter with fog", x.earnedAfter(240), 10);
        EchoMarket y = market();
        y.shout(0, 0, 20, 3);
        Check.due("earnedAfter lost patience", y.earnedAfter(240), 10);
        Check.due("time", y.time(), 0);
        Check.promise(47, "Throws `IllegalArgumentException` if seconds is out of range");
        within("earnedAfter", 0, 240, x::earnedAfter);
    }

    private static void finalStates() {
        Check.promise(48, "Predicts the state of a shout. - `shout`: number of a shout Returns 1 if it will be done, "
                + "2 if it will be cancelled; its state if it is not open. Throws `IndexOutOfBoundsException` if "
                + "shout is invalid");
        EchoMarket x = market();
        x.shout(0, 0, 1, 3);
        x.shout(1, 0, 1, 3);
        Check.due("finalState of a shout that outlasts patience", x.finalState(0), 2);
        Check.due("finalState of a patient customer's shout", x.finalState(1), 1);
        onlyTwo("finalState", x::finalState);
        x.fake(0);
        x.fake(0);
        x.fake(0);
        x.cancel(1);
        Check.due("finalState of a done shout", x.finalState(0), 1);
        Check.due("finalState of a cancelled shout", x.finalState(1), 2);
    }

    // ---- checks and measures

    private static void violations() {
        Check.promise(49, "Checks invariants. Returns the absolute difference of the costs of all shouts and the sum "
                + "of earned(), refunded() and held(), plus the absolute difference of the money with which all "
                + "customers were added and the sum of the money of all customers, earned() and held(), plus the "
                + "number of shouts that are done with fewer returns than ordered; always 0.");
        Check.due("violations of a new market", new EchoMarket().violations(), 0);
        for (int second = 1; second <= 22; second++) {
            Check.due("violations at " + second, at(second).violations(), 0);
        }
        EchoMarket x = at(7);
        x.setPrice(0, 1);
        x.cancel(0);
        x.fake(1);
        Check.due("violations", x.violations(), 0);
        x.undo();
        x.undo();
        Check.due("violations behind undo", x.violations(), 0);
    }

    private static void measures() {
        Check.promise(50, "Returns the mean rating. Returns the sum of the ratings as a double divided by the number "
                + "of valleys as a double; 0.0 if there is no valley.");
        Check.due("meanRating of no valley", new EchoMarket().meanRating(), 0.0);
        Check.due("meanRating", market().meanRating(), 10.0);
        Check.due("meanRating at 7", at(7).meanRating(), 10.5);
        EchoMarket x = at(14);
        Check.feed(x, "tal").addValley(1, 1, 1);
        Check.due("meanRating of three", x.meanRating(), (double) 33 / (double) 3);
        Check.promise(51, "Returns the fraction of returned echoes that were heard. Returns the number of heard "
                + "echoes as a float divided by the number of returned echoes as a float; 0.0f if no echo has "
                + "returned.");
        Check.due("heardFraction of none", at(6).heardFraction(), 0.0f);
        Check.due("heardFraction of all", at(14).heardFraction(), 1.0f);
        Check.due("heardFraction at 21", at(21).heardFraction(), (float) 4 / (float) 5);
        x.fake(1);
        Check.due("heardFraction with a lost fake", x.heardFraction(), (float) 3 / (float) 4);
        x.cancel(0);
        Check.due("heardFraction with a cancelled shout", x.heardFraction(), (float) 3 / (float) 4);
    }

    // ---- changes

    private static void addingValleys() {
        Check.promise(52, "Adds a valley. The name is the whole input buffer, which is then emptied. Undoable. - "
                + "`width`: 1 to 60 - `walls`: 1 to 4 - `price`: 1 to 99 Returns the number of the valley.");
        EchoMarket x = Check.feed(new EchoMarket(), "bergen");
        Check.due("addValley", x.addValley(60, 4, 99), 0);
        Check.argument("truncate of the emptied input", () -> x.truncate(1));
        Check.due("addValley", Check.feed(x, "a").addValley(1, 1, 1), 1);
        Check.due("width, walls and price", x.width(0) * 10000 + x.walls(0) * 1000 + x.price(0), 604099);
        Check.due("width, walls and price", x.width(1) * 10000 + x.walls(1) * 1000 + x.price(1), 11001);
        Check.due("undo", x.undo(), 1);
        Check.due("valleyCount", x.valleyCount(), 1);
        Check.promise(52, "Throws `IllegalArgumentException` if width, walls or price is out of range Throws "
                + "`IllegalStateException` if the input buffer is not 1 to 8 letters a to z, a valley has this name, "
                + "or there are 8 valleys");
        for (String name : new String[] {"", "abcdefghi", "Ab", "a1", "a b", "bergen"}) {
            EchoMarket y = Check.feed(Check.described("market;valley bergen 1 1 1;"), name);
            Check.state("addValley of '" + name + "'", () -> y.addValley(1, 1, 1));
            within("addValley of '" + name + "'", 1, 60, width -> y.addValley(width, 1, 1));
            within("addValley of '" + name + "'", 1, 4, walls -> y.addValley(1, walls, 1));
            within("addValley of '" + name + "'", 1, 99, price -> y.addValley(1, 1, price));
            Check.due("the kept input", y.truncate(name.length()), name.length());
        }
    }

    private static void addingCustomers() {
        Check.promise(53, "Adds a customer. The name is the whole input buffer, which is then emptied. Undoable. - "
                + "`patience`: 1 to 240 - `money`: 0 to 9999 Returns the number of the customer.");
        EchoMarket x = Check.feed(new EchoMarket(), "zoe");
        Check.due("addCustomer", x.addCustomer(240, 9999), 0);
        Check.argument("truncate of the emptied input", () -> x.truncate(1));
        Check.due("addCustomer", Check.feed(x, "eightabc").addCustomer(1, 0), 1);
        Check.due("patience", x.patience(0), 240);
        Check.due("money", x.money(0), 9999);
        Check.due("patience", x.patience(1), 1);
        Check.due("money", x.money(1), 0);
        Check.due("undo", x.undo(), 1);
        Check.due("customerCount", x.customerCount(), 1);
        Check.promise(53, "Throws `IllegalArgumentException` if patience or money is out of range Throws "
                + "`IllegalStateException` if the input buffer is not 1 to 8 letters a to z, a customer has this "
                + "name, or there are 8 customers");
        for (String name : new String[] {"", "ninechars", "Zoe", "zo3", "z\ne", "zoe"}) {
            EchoMarket y = Check.feed(Check.described("market;customer zoe 1 1;"), name);
            Check.state("addCustomer of '" + name + "'", () -> y.addCustomer(1, 1));
            within("addCustomer of '" + name + "'", 1, 240, patience -> y.addCustomer(patience, 1));
            within("addCustomer of '" + name + "'", 0, 9999, money -> y.addCustomer(1, money));
            Check.due("the kept input", y.truncate(name.length()), name.length());
        }
    }

    private static void shouting() {
        Check.promise(54, "Sells a shout. Undoable. - `customer`: number of a customer - `valley`: number of a valley "
                + "- `loudness`: 1 to 20 - `order`: 1 to 4 Returns the number of the shout.");
        EchoMarket x = market();
        Check.due("shout", x.shout(1, 1, 20, 4), 0);
        Check.due("shout", x.shout(0, 1, 1, 1), 1);
        Check.due("money", x.money(1), 14);
        Check.due("money", x.money(0), 91);
        Check.due("undo", x.undo(), 1);
        Check.due("shoutCount", x.shoutCount(), 1);
        Check.due("money", x.money(0), 100);
        Check.promise(54, "Throws `IndexOutOfBoundsException` if customer or valley is invalid Throws "
                + "`IllegalArgumentException` if loudness or order is out of range Throws `IllegalStateException` if "
                + "refusal() is not 0");
        onlyTwo("shout", c -> x.shout(c, 0, 0, 1));
        onlyTwo("shout", v -> x.shout(1, v, 1, 5));
        within("shout", 1, 20, loudness -> x.shout(1, 1, loudness, 1));
        within("shout", 1, 4, order -> x.shout(1, 1, 1, order));
        Check.state("shout beside an open one", () -> x.shout(1, 1, 1, 1));
        Check.state("shout with too large an order", () -> x.shout(0, 0, 1, 4));
        Check.due("undo", x.undo(), 0);
    }

    private static void cancelling() {
        Check.promise(55, "Cancels an open shout, and all echoes that have not returned are refunded. Undoable. - "
                + "`shout`: number of a shout Returns the refund.");
        EchoMarket x = at(7);
        Check.due("cancel", x.cancel(1), 18);
        Check.due("money", x.money(1), 41);
        Check.due("refunded", x.refunded(), 18);
        Check.due("cancel", x.cancel(0), 10);
        Check.due("undo", x.undo(), 2);
        Check.due("shoutState", x.shoutState(0), 0);
        Check.due("money", x.money(0), 90);
        Check.promise(55, "Throws `IndexOutOfBoundsException` if shout is invalid Throws `IllegalStateException` if "
                + "the shout is not open");
        onlyTwo("cancel", x::cancel);
        Check.state("cancel of a cancelled shout", () -> x.cancel(1));
        Check.state("cancel of a done shout", () -> at(20).cancel(0));
    }

    private static void faking() {
        Check.promise(56, "Fakes the next echo of an open shout by the well, see section 5. Undoable. - `shout`: "
                + "number of a shout Returns the suspicion of its customer afterwards.");
        EchoMarket x = at(7);
        Check.due("fake with a dry well", x.fake(0), 0);
        Check.due("refunded", x.refunded(), 5);
        x.setWell(20);
        Check.due("fake", x.fake(1), 1);
        Check.due("earned", x.earned(), 18);
        Check.due("fake", x.fake(1), 2);
        Check.due("shoutState", x.shoutState(1), 1);
        Check.due("undo", x.undo(), 4);
        Check.due("suspicion", x.suspicion(1), 1);
        Check.due("shoutState", x.shoutState(1), 0);
        Check.due("pass to 21", x.pass(14), 2);
        Check.promise(56, "Throws `IndexOutOfBoundsException` if shout is invalid Throws `IllegalStateException` if "
                + "the shout is not open");
        onlyTwo("fake", x::fake);
        Check.state("fake of a done shout", () -> x.fake(0));
        EchoMarket y = at(7);
        y.cancel(0);
        Check.state("fake of a cancelled shout", () -> y.fake(0));
    }

    private static void fogAndPrice() {
        Check.promise(57, "Sets the fog of a valley. Undoable. - `valley`: number of a valley - `fog`: 0 to 9 Returns "
                + "the previous fog.");
        EchoMarket x = at(7);
        Check.due("setFog", x.setFog(0, 9), 0);
        Check.due("setFog", x.setFog(0, 0), 9);
        Check.due("undo", x.undo(), 2);
        x.pass(13);
        Check.due("receipt in fog", x.receipt(0), 0);
        Check.due("receipt without fog", x.receipt(1), 18);
        Check.promise(57, "Throws `IndexOutOfBoundsException` if valley is invalid Throws `IllegalArgumentException` "
                + "if fog is out of range");
        onlyTwo("setFog", v -> x.setFog(v, 10));
        within("setFog", 0, 9, fog -> x.setFog(1, fog));
        Check.promise(58, "Sets the price of an echo in a valley for later shouts. Undoable. - `valley`: number of a "
                + "valley - `price`: 1 to 99 Returns the previous price.");
        Check.due("setPrice", x.setPrice(1, 1), 9);
        Check.due("setPrice", x.setPrice(1, 99), 1);
        Check.due("undo", x.undo(), 4);
        Check.due("price", x.price(1), 1);
        x.pass(1);
        Check.due("refunded at the old price", x.refunded(), 19);
        x.shout(1, 1, 1, 4);
        Check.due("held at the new price", x.held(), 4);
        Check.promise(58, "Throws `IndexOutOfBoundsException` if valley is invalid Throws `IllegalArgumentException` "
                + "if price is out of range");
        onlyTwo("setPrice", v -> x.setPrice(v, 0));
        within("setPrice", 1, 99, price -> x.setPrice(1, price));
    }

    private static void well() {
        Check.promise(59, "Sets the depth of the well. Undoable. - `depth`: 0 to 20 Returns the previous depth. "
                + "Throws `IllegalArgumentException` if depth is out of range");
        EchoMarket x = market();
        Check.due("setWell", x.setWell(20), 0);
        Check.due("setWell", x.setWell(0), 20);
        Check.due("undo", x.undo(), 1);
        Check.due("wellDepth", x.wellDepth(), 20);
        within("setWell", 0, 20, x::setWell);
    }

    private static void passing() {
        Check.promise(60, "Lets seconds pass one after another. Undoable. - `seconds`: 1 to 240 Returns the number of "
                + "returns in these seconds.");
        EchoMarket x = at(6);
        Check.due("pass", x.pass(1), 1);
        Check.due("pass", x.pass(2), 0);
        Check.due("pass", x.pass(240), 4);
        Check.due("time", x.time(), 249);
        Check.due("undo", x.undo(), 3);
        Check.due("time", x.time(), 9);
        Check.due("returns", x.returns(1), 1);
        Check.promise(60, "Throws `IllegalArgumentException` if seconds is out of range Throws "
                + "`IllegalStateException` if the time would exceed 9999");
        within("pass", 1, 240, x::pass);
        for (int i = 0; i < 41; i++) {
            x.pass(240);
        }
        Check.due("pass", x.pass(149), 0);
        Check.state("pass beyond 9999", () -> x.pass(2));
        Check.state("pass beyond 9999", () -> x.pass(240));
        within("pass", 1, 240, x::pass);
        Check.due("pass", x.pass(1), 0);
        Check.due("time", x.time(), 9999);
        Check.state("pass beyond 9999", () -> x.pass(1));
    }

    // ---- undo, output, saved state

    private static void undoing() {
        Check.promise(61, "Undoes the latest undoable call that has not been undone. Returns the number of calls that "
                + "can still be undone. Throws `IllegalStateException` if there is none to undo");
        EchoMarket x = market();
        Check.state("undo behind readText", x::undo);
        for (int depth = 1; depth <= 7; depth++) {
            x.setWell(depth);
        }
        for (int left = 5; left >= 0; left--) {
            Check.due("undo", x.undo(), left);
            Check.due("wellDepth", x.wellDepth(), left + 1);
        }
        Check.state("undo of a seventh call", x::undo);
        x.setWell(8);
        Check.due("undo", x.undo(), 0);
        Check.due("wellDepth", x.wellDepth(), 1);
    }

    private static void printing() {
        Check.promise(62, "Replaces the output by the receipt of a shout: the name of the customer, an at sign (byte "
                + "64), the name of the valley, a space, one byte for each echo of the order in the order of the "
                + "walls (h for a heard echo, l for a lost one, a full stop (byte 46) for one that has not returned), "
                + "a space, the sum of the prices of its heard echoes in decimal, and a line feed. - `shout`: number "
                + "of a shout Returns the number of bytes of the output. Throws `IndexOutOfBoundsException` if shout "
                + "is invalid");
        EchoMarket x = at(14);
        Check.due("printReceipt", x.printReceipt(1), 15);
        Check.due("output", Check.output(x, 15), "bob@alp hh. 18\n");
        onlyTwo("printReceipt", x::printReceipt);
        Check.due("output", Check.output(x, 15), "bob@alp hh. 18\n");
        x.fake(0);
        Check.due("printReceipt", x.printReceipt(0), 13);
        Check.due("output", Check.output(x, 13), "ann@zug hl 5\n");
        Check.promise(63, "Returns a byte of the output. - `index`: index of a byte Returns the byte. Throws "
                + "`IndexOutOfBoundsException` if the output has no such byte");
        Check.due("outputByte", x.outputByte(0), 'a');
        Check.due("outputByte", x.outputByte(12), '\n');
        for (int index : new int[] {13, 14, -1, Integer.MIN_VALUE, Integer.MAX_VALUE}) {
            Check.index("outputByte " + index, () -> x.outputByte(index));
        }
    }

    private static void savedState() {
        Check.promise(64, "Saves everything that undo() can restore, replacing an earlier saved state. Returns the "
                + "time.");
        EchoMarket x = at(6);
        Check.due("saveState", x.saveState(), 6);
        x.pass(8);
        Check.due("saveState", x.saveState(), 14);
        Check.promise(65, "Restores the saved state, which stays saved. Afterwards nothing can be undone. Returns the "
                + "time afterwards. Throws `IllegalStateException` if no state is saved");
        for (int i = 0; i < 2; i++) {
            x.pass(7);
            x.setFog(0, 4);
            Check.due("restoreState", x.restoreState(), 14);
            Check.state("undo", x::undo);
            Check.due("earned", x.earned(), 23);
            Check.due("neededLoudness", x.neededLoudness(0, 1), 3);
        }
        Check.state("restoreState of nothing", () -> at(6).restoreState());
    }

    // ---- what the interface says ahead of the calls

    private static void totalsSinceDescribed() {
        Check.terms(8, "totals since the market was created or described");
        EchoMarket x = at(21);
        x.setWell(2);
        x.shout(0, 0, 1, 1);
        Check.due("readText", Check.read(x, "market; valley zug 10 3 5; customer ann 25 100;"), "0");
        Check.due("the totals", x.shoutCount() + x.time() + x.earned() + x.refunded() + x.held() + x.wellDepth()
                + x.openShouts(), 0);
        Check.due("the counts", x.valleyCount() * 10 + x.customerCount(), 11);
        Check.due("money", x.money(0), 100);
        Check.due("rating", x.rating(0), 10);
    }

    private static void onlySecondsPass() {
        Check.terms(8, "predictions, which assume that only seconds pass");
        for (int seconds = 1; seconds <= 70; seconds++) {
            EchoMarket now = Check.described(MARKET + "price zug 1; fog zug 2; shout bob zug 6 3; shout ann zug 20 3;"
                    + "fog alp 1; shout ann alp 9 4;");
            EchoMarket later = Check.described(MARKET + "price zug 1; fog zug 2; shout bob zug 6 3; shout ann zug 20 3;"
                    + "fog alp 1; shout ann alp 9 4;");
            later.pass(seconds);
            Check.due("earnedAfter " + seconds, now.earnedAfter(seconds), later.earned());
            Check.due("nextEvent before " + seconds, now.nextEvent() <= seconds, now.nextEvent() == 7 && seconds >= 7);
            for (int shout = 0; shout < 3; shout++) {
                int state = later.shoutState(shout);
                Check.due("finalState", now.finalState(shout), state == 0 ? later.finalState(shout) : state);
            }
            Check.due("time behind predictions", now.time(), 0);
        }
    }

    private static void allChangesAreUndoable() {
        Check.terms(8, "changes, all undoable");
        undone("addValley", x -> Check.feed(x, "tal").addValley(1, 1, 1));
        undone("addCustomer", x -> Check.feed(x, "cid").addCustomer(1, 1));
        undone("shout", x -> x.shout(0, 1, 20, 1));
        undone("cancel", x -> x.cancel(1));
        undone("fake", x -> x.fake(1));
        undone("setFog", x -> x.setFog(1, 9));
        undone("setPrice", x -> x.setPrice(1, 1));
        undone("setWell", x -> x.setWell(5));
        undone("pass", x -> x.pass(100));
    }

    private static void undone(String call, Bounds.Act act) {
        String before = Portrait.of(() -> at(7));
        String changed = Portrait.of(() -> {
            EchoMarket x = at(7);
            act.on(x);
            return x;
        });
        Check.due(call + " changes something", changed.equals(before), false);
        String behind = Portrait.of(() -> {
            EchoMarket x = at(7);
            act.on(x);
            Check.due("calls left behind undo of " + call, x.undo(), 1);
            return x;
        });
        Check.due("what is there behind undo of " + call, behind, before);
    }
}
