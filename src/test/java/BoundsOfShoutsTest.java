import java.util.function.Supplier;

/** Section 3 and the promises on shouts: each sentence that names a bound, at it and beyond it. */
public final class BoundsOfShoutsTest {
    public static void main(String[] args) {
        thirtyShouts();
        noThirtyFirstShout();
        loudnessAndOrder();
        costs();
        openAtFirst();
        ordersAndWalls();
        moneyAndCost();
        openShoutInTheValley();
        firstReason();
        noReason();
        oneAfterAnother();
        lastWall();
        askingForAShout();
        states();
        returnsAndReceipts();
        nextReturn();
        patienceEnds();
        refusal();
        bestOffer();
        offerInTime();
        selling();
        cancelling();
        receipts();
        Check.end();
    }

    private static EchoMarket market() {
        return Check.described("market;valley v 10 4 5;valley w 4 2 7;customer c 30 100;customer d 100 99;");
    }

    /** A market in which a number of shouts have been sold, at most 30, all done. */
    private static EchoMarket sold(int count) {
        EchoMarket x = Check.described("market;valley v 1 4 1;customer c 9 99;");
        for (int i = 0; i < count; i++) {
            x.shout(0, 0, 20, 1);
            x.pass(1);
        }
        return x;
    }

    private static void thirtyShouts() {
        Check.terms(3, "At most 30 shouts can be sold; they are numbered from 0 in the order of their sale.");
        EchoMarket x = sold(0);
        for (int i = 0; i < 30; i++) {
            Check.due("refusal", x.refusal(0, 0, 1), 0);
            Check.due("shout", x.shout(0, 0, i % 20 + 1, 1), i);
            Check.due("shoutCount", x.shoutCount(), i + 1);
            Check.due("openShouts", x.openShouts(), 1);
            x.pass(1);
        }
        for (int i = 0; i < 30; i++) {
            Check.due("receipt in the order of the sales", x.receipt(i), i % 20 + 1 > 2 ? 1 : 0);
        }
        Check.due("refusal", x.refusal(0, 0, 1), 1);
        Check.promise(10, "Returns the number of shouts that have been sold.");
        Check.due("none in a new market", new EchoMarket().shoutCount(), 0);
        x.undo();
        x.undo();
        Check.due("after undo", x.shoutCount(), 29);
        Check.due("the place is free again", x.shout(0, 0, 9, 1), 29);
    }

    private static void noThirtyFirstShout() {
        Check.promise(54, "Throws `IllegalStateException` if refusal() is not 0");
        Bounds.taken("a 30th shout", () -> sold(29), x -> x.shout(0, 0, 1, 1));
        Bounds.state("a 31st shout", () -> sold(30), x -> x.shout(0, 0, 1, 1));
    }

    private static void loudnessAndOrder() {
        Check.terms(3, "a loudness from 1 to 20 and an order, which is the number of echoes that the customer wishes, "
                + "from 1 to 4");
        Bounds.arguments("shout: loudness", () -> market(), 1, 20, (x, n) -> x.shout(0, 0, n, 1));
        Bounds.arguments("shout: order", () -> market(), 1, 4, (x, n) -> x.shout(0, 0, 20, n));
        Bounds.argument("shout: loudness 0 after 30 shouts", () -> sold(30), x -> x.shout(0, 0, 0, 4));
        Bounds.argument("shout: order 5 after 30 shouts", () -> sold(30), x -> x.shout(0, 0, 20, 5));
        for (int order = 1; order <= 4; order++) {
            EchoMarket x = market();
            x.shout(0, 0, 20, order);
            Check.due("the echoes of an order", x.pass(99), Math.min(order, 3));
            x.shout(1, 0, 20, order);
            Check.due("the echoes of an order", x.pass(99), order);
        }
    }

    private static void costs() {
        Check.terms(3, "When a shout is sold, the customer pays its cost, which is the price of the valley at that "
                + "time * order, to the market, and the market holds this amount until it is earned or refunded.");
        for (int price : new int[] {1, 2, 98, 99}) {
            for (int order = 1; order <= 4; order++) {
                EchoMarket x = Check.described("market;valley v 1 4 50;customer c 2 9999;");
                x.setPrice(0, price);
                x.shout(0, 0, 3, order);
                Check.due("money", x.money(0), 9999 - price * order);
                Check.due("held", x.held(), price * order);
                x.setPrice(0, 100 - price);
                x.pass(1);
                Check.due("held after an earned echo", x.held(), price * (order - 1));
                Check.due("earned", x.earned(), price);
                x.pass(1);
                Check.due("held after a refund", x.held(), 0);
                Check.due("refunded", x.refunded(), price * (order - 1));
                Check.due("money", x.money(0), 9999 - price);
            }
        }
        Check.promise(14, "Returns the amount that the market holds.");
        Check.due("held in a new market", new EchoMarket().held(), 0);
        Check.due("held with 8 open shouts of 396", eightOpenShouts().held(), 8 * 396);
        Check.due("heldFor all of them", eightOpenShouts().heldFor(0), 8 * 396);
    }

    private static EchoMarket eightOpenShouts() {
        EchoMarket x = Check.described("market;customer c 240 9999;");
        for (int i = 0; i < 8; i++) {
            Check.feed(x, "v" + (char) ('a' + i)).addValley(60, 4, 99);
            x.shout(0, i, 20, 4);
        }
        return x;
    }

    private static void openAtFirst() {
        Check.terms(3, "The shout is then open.");
        EchoMarket x = eightOpenShouts();
        Check.due("shoutState", x.shoutState(7), 0);
        Check.promise(16, "Returns the number of open shouts.");
        Check.due("eight open shouts", x.openShouts(), 8);
        Check.due("none in a new market", new EchoMarket().openShouts(), 0);
        Check.due("none after 30", sold(30).openShouts(), 0);
    }

    private static void ordersAndWalls() {
        Check.terms(3, "2 if the order exceeds the number of walls of the valley");
        for (int walls = 1; walls <= 4; walls++) {
            EchoMarket x = Check.described("market;valley v 1 " + walls + " 1;customer c 9 9;");
            for (int order = 1; order <= 4; order++) {
                Check.due("order " + order + " with walls " + walls, x.refusal(0, 0, order), order > walls ? 2 : 0);
            }
            int all = walls;
            Check.due("an order of all walls", x.shout(0, 0, 1, all), 0);
        }
    }

    private static void moneyAndCost() {
        Check.terms(3, "3 if the money of the customer is less than the cost");
        for (int order = 1; order <= 4; order++) {
            for (int price : new int[] {1, 7, 99}) {
                int cost = price * order;
                for (int money = cost - 1; money <= cost + 1; money++) {
                    EchoMarket x = Check.described("market;valley v 1 4 " + price + ";customer c 9 " + money + ";");
                    Check.due("cost " + cost + ", money " + money, x.refusal(0, 0, order), money < cost ? 3 : 0);
                }
            }
        }
    }

    private static void openShoutInTheValley() {
        Check.terms(3, "4 if the customer has an open shout in this valley");
        EchoMarket x = market();
        x.shout(0, 0, 20, 1);
        Check.due("the same customer and valley", x.refusal(0, 0, 1), 4);
        Check.due("another valley", x.refusal(0, 1, 1), 0);
        Check.due("another customer", x.refusal(1, 0, 1), 0);
        x.pass(9);
        Check.due("just before it is done", x.refusal(0, 0, 1), 4);
        x.pass(1);
        Check.due("when it is done", x.refusal(0, 0, 1), 0);
        x.shout(0, 0, 20, 4);
        x.pass(29);
        Check.due("just before the patience is lost", x.refusal(0, 0, 1), 4);
        x.pass(1);
        Check.due("when it is cancelled", x.refusal(0, 0, 1), 0);
        x.shout(0, 0, 20, 4);
        x.cancel(2);
        Check.due("when it is cancelled", x.refusal(0, 0, 1), 0);
        x.undo();
        Check.due("when that is undone", x.refusal(0, 0, 1), 4);
    }

    /** All sets of reasons: bits 0 to 4 stand for the reasons 1 to 5; an angry customer has no open shout. */
    private static void firstReason() {
        Check.terms(3, "The sale of a shout is refused for the first of these reasons that applies");
        for (int reasons = 0; reasons < 32; reasons++) {
            if ((reasons & 24) != 24) {
                EchoMarket x = refusing(reasons);
                int order = (reasons & 2) != 0 ? 3 : 1;
                int first = reasons == 0 ? 0 : Integer.numberOfTrailingZeros(reasons) + 1;
                Check.due("refusal for the set " + reasons, x.refusal(0, 0, order), first);
                int count = x.shoutCount();
                Check.due("shout for the set " + reasons, Check.answer(() -> x.shout(0, 0, 1, order)),
                        first == 0 ? "" + count : IllegalStateException.class.getName());
                Check.due("shoutCount for the set " + reasons, x.shoutCount(), count + (first == 0 ? 1 : 0));
            }
        }
    }

    private static void noReason() {
        Check.terms(3, "0 means that it is not refused.");
        EchoMarket x = Check.described("market;valley v 60 4 99;customer c 1 396;");
        Check.due("the last money for all walls", x.refusal(0, 0, 4), 0);
        Check.due("shout", x.shout(0, 0, 1, 4), 0);
    }

    private static EchoMarket refusing(int reasons) {
        EchoMarket x = Check.described("market;valley v 60 2 1;valley w 1 4 1;customer c 240 60;customer d 240 99;");
        if ((reasons & 16) != 0) {
            Check.script(x, "well 1;shout c w 1 3;fake 0;fake 0;fake 0;");
        }
        if ((reasons & 8) != 0) {
            Check.script(x, "shout c v 9 1;");
        }
        while ((reasons & 1) != 0 && x.shoutCount() < 30) {
            Check.script(x, "shout d w 9 1;pass 1;");
        }
        x.setPrice(0, (reasons & 4) != 0 ? 99 : 1);
        return x;
    }

    private static void oneAfterAnother() {
        Check.terms(3, "An open shout returns from the walls 1, 2 and so on up to its order, one after another.");
        String[] receipts = {"c@v .... 0\n", "c@v h... 1\n", "c@v hh.. 2\n", "c@v hhl. 2\n", "c@v hhll 2\n"};
        EchoMarket x = Check.described("market;valley v 1 4 1;customer c 9 9;shout c v 5 4;");
        for (int second = 0; second <= 4; second++) {
            Check.due("second " + second, Check.output(x, x.printReceipt(0)), receipts[second]);
            x.pass(1);
        }
    }

    private static void lastWall() {
        Check.terms(3, "The wall from which it returns last is the wall with the number of its order.");
        for (int order = 1; order <= 4; order++) {
            EchoMarket x = Check.described("market;valley v 10 4 1;customer c 240 99;");
            x.shout(0, 0, 20, order);
            x.pass(10 * order - 1);
            Check.due("just before the last wall of " + order, x.shoutState(0), 0);
            x.pass(1);
            Check.due("at the last wall of " + order, x.shoutState(0), 1);
            Check.due("no return from the other walls", x.pass(240), 0);
        }
    }

    private static void askingForAShout() {
        Supplier<EchoMarket> three = () -> sold(3);
        Check.promise(36, "Throws `IndexOutOfBoundsException` if shout is invalid");
        Bounds.indices("shoutCustomer", three, 3, (x, n) -> x.shoutCustomer(n));
        Check.promise(37, "Throws `IndexOutOfBoundsException` if shout is invalid");
        Bounds.indices("shoutValley", three, 3, (x, n) -> x.shoutValley(n));
        Check.promise(38, "Throws `IndexOutOfBoundsException` if shout is invalid");
        Bounds.indices("shoutState", three, 3, (x, n) -> x.shoutState(n));
        Check.promise(39, "Throws `IndexOutOfBoundsException` if shout is invalid");
        Bounds.indices("returns", three, 3, (x, n) -> x.returns(n));
        Check.promise(40, "Throws `IndexOutOfBoundsException` if shout is invalid");
        Bounds.indices("receipt", three, 3, (x, n) -> x.receipt(n));
        Check.promise(41, "Throws `IndexOutOfBoundsException` if shout is invalid");
        Bounds.indices("nextReturn", three, 3, (x, n) -> x.nextReturn(n));
        Check.promise(42, "Throws `IndexOutOfBoundsException` if shout is invalid");
        Bounds.indices("patienceEnds", three, 3, (x, n) -> x.patienceEnds(n));
        Check.promise(48, "Throws `IndexOutOfBoundsException` if shout is invalid");
        Bounds.indices("finalState", three, 3, (x, n) -> x.finalState(n));
        Check.promise(62, "Throws `IndexOutOfBoundsException` if shout is invalid");
        Bounds.indices("printReceipt", three, 3, (x, n) -> x.printReceipt(n));
        EchoMarket x = sold(30);
        Check.due("the 30th shout", x.shoutState(29), 1);
        Check.index("a 31st shout", () -> x.shoutState(30));
    }

    private static void states() {
        Check.promise(38, "Returns 0 open, 1 done, 2 cancelled.");
        EchoMarket x = market();
        x.shout(0, 0, 20, 1);
        Check.due("open", x.shoutState(0), 0);
        x.pass(10);
        Check.due("done", x.shoutState(0), 1);
        x.shout(0, 0, 20, 1);
        x.cancel(1);
        Check.due("cancelled", x.shoutState(1), 2);
        x.shout(0, 0, 20, 4);
        x.pass(30);
        Check.due("cancelled by a loss of patience", x.shoutState(2), 2);
    }

    private static void returnsAndReceipts() {
        Check.promise(39, "Returns the number of echoes that have returned, heard or lost, faked or not.");
        EchoMarket x = Check.described("market;valley v 1 4 99;customer c 9 999;shout c v 3 4;");
        Check.due("none", x.returns(0) + x.receipt(0), 0);
        x.pass(1);
        Check.due("a heard one", x.returns(0), 1);
        x.pass(1);
        Check.due("a lost one", x.returns(0), 2);
        x.fake(0);
        Check.due("a lost fake", x.returns(0), 3);
        x.setWell(1);
        Check.promise(40, "Returns the sum of the prices of its heard echoes.");
        Check.due("one heard echo", x.receipt(0), 99);
        x.fake(0);
        Check.due("all four", x.returns(0), 4);
        Check.due("a heard fake", x.receipt(0), 198);
        Check.script(x, "shout c v 20 4;pass 4;");
        Check.due("the greatest receipt", x.receipt(1), 396);
    }

    private static void nextReturn() {
        Check.promise(41, "Returns the second in which it returns next if only seconds pass and the customer does not "
                + "lose patience before; NONE if the shout is not open.");
        EchoMarket x = Check.described("market;valley v 60 4 1;customer c 1 9;customer d 240 9;shout c v 20 4;"
                + "shout d v 20 2;");
        Check.due("behind the patience", x.nextReturn(0), 60);
        x.pass(1);
        Check.due("cancelled", x.nextReturn(0), -1);
        x.pass(58);
        Check.due("one second before", x.nextReturn(1), 60);
        x.pass(1);
        Check.due("in the second of a return", x.nextReturn(1), 120);
        x.pass(60);
        Check.due("done", x.nextReturn(1), -1);
    }

    private static void patienceEnds() {
        Check.promise(42, "Returns the second of its sale plus the patience of its customer, whatever its state is.");
        EchoMarket x = Check.described("market;valley v 9 4 1;customer c 1 9;customer d 240 9;pass 5;shout c v 20 1;"
                + "shout d v 20 1;");
        Check.due("the least patience", x.patienceEnds(0), 6);
        Check.due("the greatest patience", x.patienceEnds(1), 245);
        x.pass(9);
        Check.due("cancelled", x.patienceEnds(0), 6);
        Check.due("done", x.patienceEnds(1), 245);
    }

    private static void refusal() {
        Check.promise(43, "Throws `IndexOutOfBoundsException` if customer or valley is invalid");
        Bounds.indices("refusal: customer", () -> market(), 2, (x, n) -> x.refusal(n, 0, 1));
        Bounds.indices("refusal: valley", () -> market(), 2, (x, n) -> x.refusal(0, n, 1));
        Bounds.index("refusal: customer and order", () -> market(), x -> x.refusal(2, 0, 5));
        Bounds.index("refusal: valley and order", () -> market(), x -> x.refusal(0, -1, 0));
        Check.promise(43, "Throws `IllegalArgumentException` if order is out of range");
        Bounds.arguments("refusal: order", () -> market(), 1, 4, (x, n) -> x.refusal(1, 1, n));
        Bounds.arguments("refusal: order after 30 shouts", () -> sold(30), 1, 4, (x, n) -> x.refusal(0, 0, n));
    }

    private static void bestOffer() {
        Check.promise(45, "NONE if there is none");
        Check.due("no valley", Check.described("market;customer c 9 9;").bestOffer(0, 1), -1);
        Check.due("after 30 shouts", sold(30).bestOffer(0, 1), -1);
        Check.due("after 29 shouts", sold(29).bestOffer(0, 1), 0);
        Check.promise(45, "of several the one with the greatest rating, and of these the one with the smallest number");
        EchoMarket x = Check.described("market;valley a 1 4 2;valley b 1 4 2;valley v 1 4 2;customer c 9 99;");
        Check.due("three equal ones", x.bestOffer(0, 4), 0);
        Check.script(x, "shout c v 20 1;pass 1;");
        Check.due("a rating greater by 1", x.bestOffer(0, 4), 2);
        x.setPrice(1, 1);
        Check.due("a price smaller by 1", x.bestOffer(0, 4), 1);
        Check.promise(45, "Throws `IndexOutOfBoundsException` if customer is invalid");
        Bounds.indices("bestOffer", () -> market(), 2, (y, n) -> y.bestOffer(n, 1));
        Bounds.index("bestOffer: customer and order", () -> market(), y -> y.bestOffer(2, 5));
        Check.promise(45, "Throws `IllegalArgumentException` if order is out of range");
        Bounds.arguments("bestOffer: order", () -> market(), 1, 4, (y, n) -> y.bestOffer(1, n));
    }

    private static void offerInTime() {
        Check.promise(45, "from whose last wall a shout would return before the customer loses patience or in the same "
                + "second");
        for (int order = 1; order <= 4; order++) {
            for (int late = -1; late <= 1; late++) {
                EchoMarket x = Check.described("market;valley v 20 4 1;customer c " + (20 * order - late) + " 9;");
                Check.due("order " + order + ", too late by " + late, x.bestOffer(0, order), late > 0 ? -1 : 0);
            }
        }
        EchoMarket x = Check.described("market;valley v 60 4 1;customer c 240 9;customer d 239 9;");
        Check.due("the greatest width, order and patience", x.bestOffer(0, 4), 0);
        Check.due("a patience too small by 1", x.bestOffer(1, 4), -1);
    }

    private static void selling() {
        Check.promise(54, "Throws `IndexOutOfBoundsException` if customer or valley is invalid");
        Bounds.indices("shout: customer", () -> market(), 2, (x, n) -> x.shout(n, 1, 1, 1));
        Bounds.indices("shout: valley", () -> market(), 2, (x, n) -> x.shout(1, n, 1, 1));
        Bounds.index("shout: customer, loudness, order", () -> market(), x -> x.shout(2, 0, 0, 5));
        Bounds.index("shout: valley, loudness, order", () -> market(), x -> x.shout(0, 2, 21, 0));
        Bounds.index("shout: no customer and no valley", () -> new EchoMarket(), x -> x.shout(0, 0, 1, 1));
        Check.promise(54, "Throws `IllegalArgumentException` if loudness or order is out of range");
        Bounds.argument("shout: loudness and order above the walls", () -> market(), x -> x.shout(0, 1, 21, 3));
        Check.promise(54, "Throws `IllegalStateException` if refusal() is not 0");
        Bounds.state("order above the walls", () -> market(), x -> x.shout(0, 1, 1, 3));
        Bounds.state("money below the cost", () -> Check.described("market;valley v 1 4 3;customer c 9 11;"),
                x -> x.shout(0, 0, 1, 4));
        Bounds.state("an open shout", () -> refusing(8), x -> x.shout(0, 0, 1, 1));
        Bounds.state("an angry customer", () -> refusing(16), x -> x.shout(0, 0, 1, 1));
    }

    private static void cancelling() {
        Check.promise(55, "Returns the refund.");
        for (int returned = 0; returned <= 3; returned++) {
            EchoMarket x = Check.described("market;valley v 1 4 99;customer c 9 999;shout c v 20 4;price v 1;");
            for (int i = 0; i < returned; i++) {
                x.pass(1);
            }
            Check.due("cancel after " + returned, x.cancel(0), 99 * (4 - returned));
            Check.due("refunded", x.refunded(), 99 * (4 - returned));
            Check.due("money", x.money(0), 999 - 99 * returned);
        }
        Check.promise(55, "Throws `IndexOutOfBoundsException` if shout is invalid");
        Supplier<EchoMarket> oneOpen = () -> Check.described("market;valley v 9 4 9;customer c 99 99;shout c v 9 4;");
        Bounds.indices("cancel", oneOpen, 1, (x, n) -> x.cancel(n));
        Bounds.indices("cancel without shouts", () -> market(), 0, (x, n) -> x.cancel(n));
        Check.promise(55, "Throws `IllegalStateException` if the shout is not open");
        Bounds.state("cancel of a done shout", () -> sold(1), x -> x.cancel(0));
        Bounds.state("cancel of a cancelled shout", () -> {
            EchoMarket x = oneOpen.get();
            x.cancel(0);
            return x;
        }, x -> x.cancel(0));
    }

    private static void receipts() {
        Check.promise(62, "Returns the number of bytes of the output.");
        EchoMarket x = Check.described("market;valley v 1 1 1;valley abcdefgh 1 4 99;customer c 9 99;"
                + "customer zyxwvuts 9 999;shout c v 1 1;shout zyxwvuts abcdefgh 20 4;");
        Check.due("the shortest", Check.output(x, x.printReceipt(0)), "c@v . 0\n");
        Check.due("the longest before a return", Check.output(x, x.printReceipt(1)), "zyxwvuts@abcdefgh .... 0\n");
        x.pass(4);
        Check.due("the longest", x.printReceipt(1), 27);
        Check.due("its bytes", Check.output(x, 27), "zyxwvuts@abcdefgh hhhh 396\n");
        Check.promise(63, "Throws `IndexOutOfBoundsException` if the output has no such byte");
        Bounds.indices("outputByte", () -> {
            EchoMarket y = Check.described("market;valley v 1 1 1;customer c 9 9;shout c v 1 1;");
            y.printReceipt(0);
            return y;
        }, 8, (y, n) -> y.outputByte(n));
        Bounds.indices("outputByte of an empty output", () -> sold(1), 0, (y, n) -> y.outputByte(n));
        Check.promise(62, "Replaces the output by the receipt of a shout");
        Check.due("a shorter output", x.printReceipt(0), 8);
        Check.index("nothing of the longer one is left", () -> x.outputByte(8));
        Check.index("printReceipt", () -> x.printReceipt(2));
        Check.due("a refused printReceipt leaves the output", Check.output(x, 8), "c@v l 0\n");
    }
}
