/** Promises 10, 12 to 14, 16, 36 to 45, 54 and 55: sales, shouts, cancelling, explanations. */
public final class ShoutTest {
    public static void main(String[] args) {
        selling();
        wrongSelling();
        refusals();
        thirtyShouts();
        shouts();
        invalid();
        cancelling();
        neededLoudness();
        offers();
        Check.end();
    }

    private static EchoMarket market() {
        return Check.described("market;valley v 10 3 5;valley w 4 2 7;customer c 25 40;customer d 100 9;");
    }

    private static void selling() {
        EchoMarket x = market();
        Check.due("shout", x.shout(0, 0, 7, 3), 0);
        Check.due("money", x.money(0), 25);
        Check.due("held", x.held(), 15);
        Check.due("openShouts", x.openShouts(), 1);
        Check.due("shout", x.shout(1, 1, 1, 1), 1);
        Check.due("shoutCount", x.shoutCount(), 2);
        Check.due("held", x.held(), 22);
        Check.due("openShouts", x.openShouts(), 2);
        x.setPrice(0, 9);
        Check.due("the price of the sale stays", x.held(), 22);
        x.pass(10);
        Check.due("earned", x.earned(), 5);
        Check.due("refunded", x.refunded(), 7);
        Check.due("held", x.held(), 10);
        Check.due("openShouts", x.openShouts(), 1);
        x.pass(15);
        Check.due("earned", x.earned(), 10);
        Check.due("refunded", x.refunded(), 12);
        Check.due("held", x.held(), 0);
        Check.due("openShouts", x.openShouts(), 0);
        Check.due("money", x.money(0), 30);
        Check.due("undo", x.undo() + x.undo() + x.undo() + x.undo() + x.undo(), 10);
        Check.due("shoutCount after undo", x.shoutCount(), 0);
    }

    private static void wrongSelling() {
        EchoMarket x = market();
        for (int n : new int[] {-1, 2, Integer.MIN_VALUE, Integer.MAX_VALUE}) {
            Check.index("shout(" + n + ", 0, 1, 1)", () -> x.shout(n, 0, 1, 1));
            Check.index("shout(0, " + n + ", 1, 1)", () -> x.shout(0, n, 1, 1));
            Check.index("shout(0, " + n + ", 0, 0)", () -> x.shout(0, n, 0, 0));
        }
        for (int n : new int[] {-1, 0, 21, Integer.MIN_VALUE, Integer.MAX_VALUE}) {
            Check.argument("shout(0, 0, " + n + ", 1)", () -> x.shout(0, 0, n, 1));
        }
        for (int n : new int[] {-1, 0, 5, Integer.MIN_VALUE, Integer.MAX_VALUE}) {
            Check.argument("shout(0, 0, 1, " + n + ")", () -> x.shout(0, 0, 1, n));
        }
        Check.argument("argument before state", () -> x.shout(1, 0, 21, 3));
        Check.state("order above walls", () -> x.shout(0, 0, 1, 4));
        Check.state("too little money", () -> x.shout(1, 0, 1, 2));
        Check.due("nothing is sold", x.shoutCount() + x.held(), 0);
        Check.due("money", x.money(1), 9);
        Check.state("nothing to undo", () -> x.undo());
        Check.due("least loudness and order", x.shout(0, 0, 1, 1), 0);
        Check.due("greatest loudness", x.shout(0, 1, 20, 2), 1);
        Check.state("an open shout in this valley", () -> x.shout(0, 0, 1, 1));
    }

    private static void refusals() {
        EchoMarket x = market();
        Check.due("refusal", x.refusal(0, 0, 3), 0);
        Check.due("order above walls", x.refusal(0, 0, 4), 2);
        Check.due("order above walls, before money", x.refusal(1, 1, 3), 2);
        Check.due("too little money", x.refusal(1, 0, 2), 3);
        x.setPrice(0, 9);
        Check.due("just enough money", x.refusal(1, 0, 1), 0);
        x.setPrice(0, 10);
        Check.due("one too little", x.refusal(1, 0, 1), 3);
        x.setPrice(0, 5);
        x.shout(1, 0, 9, 1);
        Check.due("money before an open shout", x.refusal(1, 0, 1), 3);
        x.shout(0, 0, 9, 2);
        Check.due("an open shout", x.refusal(0, 0, 1), 4);
        Check.due("order before an open shout", x.refusal(0, 0, 4), 2);
        Check.due("another valley", x.refusal(0, 1, 1), 0);
        x.cancel(1);
        Check.due("no open shout any more", x.refusal(0, 0, 1), 0);
        Check.script(x, "well 1;shout c v 9 3;fake 2;fake 2;shout c w 9 1;");
        Check.due("suspicion of 2", x.refusal(0, 1, 1), 4);
        x.fake(2);
        Check.due("an angry customer", x.refusal(0, 0, 1), 5);
        Check.due("order before anger", x.refusal(0, 0, 4), 2);
        x.setPrice(0, 99);
        Check.due("money before anger", x.refusal(0, 0, 1), 3);
        x.setPrice(0, 5);
        Check.state("shout of an angry customer", () -> x.shout(0, 0, 9, 1));
        for (int n : new int[] {-1, 2, Integer.MIN_VALUE, Integer.MAX_VALUE}) {
            Check.index("refusal(" + n + ", 0, 1)", () -> x.refusal(n, 0, 1));
            Check.index("refusal(0, " + n + ", 0)", () -> x.refusal(0, n, 0));
            Check.argument("refusal(0, 0, ..)", () -> x.refusal(0, 0, n == 2 ? 5 : n));
        }
        Check.argument("refusal(0, 0, 0)", () -> x.refusal(0, 0, 0));
    }

    private static void thirtyShouts() {
        EchoMarket x = Check.described("market;valley v 1 1 1;customer c 9 99;well 1;");
        for (int i = 0; i < 27; i++) {
            Check.due("shout", x.shout(0, 0, 9, 1), i);
            x.pass(1);
        }
        Check.script(x, "shout c v 9 1;fake 27;shout c v 9 1;fake 28;");
        Check.due("after 29", x.refusal(0, 0, 1), 0);
        Check.due("the 30th shout", x.shout(0, 0, 9, 1), 29);
        Check.due("30 shouts come first", x.refusal(0, 0, 4), 1);
        Check.state("a 31st shout", () -> x.shout(0, 0, 9, 1));
        Check.due("shoutCount", x.shoutCount(), 30);
        Check.due("shoutState(29)", x.shoutState(29), 0);
        x.fake(29);
        Check.due("anger after 30 shouts", x.refusal(0, 0, 1), 1);
        Check.due("isAngry", x.isAngry(0), true);
        x.undo();
        x.pass(1);
        Check.due("refusal without an open shout", x.refusal(0, 0, 1), 1);
        Check.due("earned", x.earned(), 30);
        Check.index("shoutState(30)", () -> x.shoutState(30));
    }

    private static void shouts() {
        EchoMarket x = market();
        x.pass(100);
        x.shout(0, 0, 4, 3);
        x.shout(1, 1, 9, 1);
        Check.due("shoutCustomer(1)", x.shoutCustomer(1), 1);
        Check.due("shoutValley(0)", x.shoutValley(0), 0);
        Check.due("shoutValley(1)", x.shoutValley(1), 1);
        Check.due("shoutState(0)", x.shoutState(0), 0);
        Check.due("returns(0)", x.returns(0), 0);
        Check.due("receipt(0)", x.receipt(0), 0);
        Check.due("nextReturn(0)", x.nextReturn(0), 110);
        Check.due("nextReturn(1)", x.nextReturn(1), 104);
        Check.due("patienceEnds(0)", x.patienceEnds(0), 125);
        Check.due("patienceEnds(1)", x.patienceEnds(1), 200);
        x.pass(10);
        Check.due("shoutState(1)", x.shoutState(1), 1);
        Check.due("nextReturn(1)", x.nextReturn(1), -1);
        Check.due("patienceEnds(1) of a done shout", x.patienceEnds(1), 200);
        Check.due("receipt(1)", x.receipt(1), 7);
        Check.due("nextReturn(0)", x.nextReturn(0), 120);
        Check.due("receipt(0)", x.receipt(0), 5);
        x.pass(10);
        Check.due("a lost echo is not in the receipt", x.receipt(0), 5);
        Check.due("but it has returned", x.returns(0), 2);
        Check.due("nextReturn(0) behind the patience", x.nextReturn(0), 130);
        x.pass(5);
        Check.due("shoutState(0)", x.shoutState(0), 2);
        Check.due("nextReturn(0)", x.nextReturn(0), -1);
        Check.due("patienceEnds(0) of a cancelled shout", x.patienceEnds(0), 125);
        Check.due("returns(0)", x.returns(0), 2);
    }

    private static void invalid() {
        EchoMarket x = market();
        x.shout(0, 0, 5, 3);
        for (int s : new int[] {-1, 1, 30, Integer.MIN_VALUE, Integer.MAX_VALUE}) {
            Check.index("shoutCustomer(" + s + ")", () -> x.shoutCustomer(s));
            Check.index("shoutValley(" + s + ")", () -> x.shoutValley(s));
            Check.index("shoutState(" + s + ")", () -> x.shoutState(s));
            Check.index("returns(" + s + ")", () -> x.returns(s));
            Check.index("receipt(" + s + ")", () -> x.receipt(s));
            Check.index("nextReturn(" + s + ")", () -> x.nextReturn(s));
            Check.index("patienceEnds(" + s + ")", () -> x.patienceEnds(s));
            Check.index("finalState(" + s + ")", () -> x.finalState(s));
            Check.index("cancel(" + s + ")", () -> x.cancel(s));
            Check.index("fake(" + s + ")", () -> x.fake(s));
        }
        Check.due("shoutState(0)", x.shoutState(0), 0);
        Check.due("nothing but the shout to undo", x.undo(), 0);
    }

    private static void cancelling() {
        EchoMarket x = market();
        x.shout(0, 0, 5, 3);
        x.shout(0, 1, 4, 2);
        x.pass(10);
        Check.state("cancel of a done shout", () -> x.cancel(1));
        Check.due("cancel", x.cancel(0), 10);
        Check.due("shoutState(0)", x.shoutState(0), 2);
        Check.due("money", x.money(0), 28);
        Check.due("refunded", x.refunded(), 17);
        Check.due("rating", x.rating(0), 11);
        Check.due("echoesLost", x.echoesLost(0), 0);
        Check.state("cancel again", () -> x.cancel(0));
        Check.state("fake of a cancelled shout", () -> x.fake(0));
        Check.due("it does not return any more", x.pass(40), 0);
        Check.due("undo of pass", x.undo(), 4);
        Check.due("undo of cancel", x.undo(), 3);
        Check.due("shoutState(0)", x.shoutState(0), 0);
        Check.due("refunded", x.refunded(), 7);
    }

    private static void neededLoudness() {
        EchoMarket x = Check.described("market;valley v 10 4 5;valley w 4 1 7;fog v 9;");
        Check.due("neededLoudness(0, 4)", x.neededLoudness(0, 4), 18);
        Check.due("neededLoudness(0, 1)", x.neededLoudness(0, 1), 12);
        x.setFog(0, 0);
        Check.due("without fog", x.neededLoudness(0, 4), 9);
        Check.due("neededLoudness(1, 1)", x.neededLoudness(1, 1), 3);
        Check.due("neededLoudness(1, 2)", x.neededLoudness(1, 2), -1);
        Check.index("neededLoudness(2, 1)", () -> x.neededLoudness(2, 1));
        Check.index("neededLoudness(-1, 0)", () -> x.neededLoudness(-1, 0));
        for (int order : new int[] {0, 5, -1, Integer.MIN_VALUE, Integer.MAX_VALUE}) {
            Check.argument("neededLoudness(1, " + order + ")", () -> x.neededLoudness(1, order));
        }
    }

    private static void offers() {
        EchoMarket x = Check.described("market;valley a 10 2 5;valley b 10 2 5;valley c 10 2 4;customer m 20 99;"
                + "customer n 19 99;customer o 20 3;");
        Check.due("the smallest price", x.bestOffer(0, 1), 2);
        x.setPrice(2, 5);
        Check.due("the smallest number", x.bestOffer(0, 1), 0);
        x.shout(1, 1, 9, 1);
        x.pass(10);
        Check.due("the greatest rating", x.bestOffer(0, 1), 1);
        x.setPrice(2, 4);
        Check.due("price before rating", x.bestOffer(0, 1), 2);
        x.shout(0, 2, 9, 1);
        Check.due("not where the sale is refused", x.bestOffer(0, 1), 1);
        Check.due("in the second of the last patience", x.bestOffer(0, 2), 1);
        Check.due("patience is too short", x.bestOffer(1, 2), -1);
        Check.due("patience is long enough for one", x.bestOffer(1, 1), 2);
        Check.due("orders above the walls", x.bestOffer(0, 3), -1);
        Check.due("too little money", x.bestOffer(2, 1), -1);
        Check.due("no valley", Check.described("market;customer m 1 1;").bestOffer(0, 1), -1);
        for (int n : new int[] {-1, 3, Integer.MIN_VALUE, Integer.MAX_VALUE}) {
            Check.index("bestOffer(" + n + ", 0)", () -> x.bestOffer(n, 0));
        }
        for (int order : new int[] {0, 5, -1, Integer.MIN_VALUE, Integer.MAX_VALUE}) {
            Check.argument("bestOffer(0, " + order + ")", () -> x.bestOffer(0, order));
        }
    }
}
