/** Promises 61, 64 and 65: undo and the saved state. */
public final class UndoTest {
    public static void main(String[] args) {
        everyChange();
        sixCalls();
        whatStays();
        onlySuccessfulCalls();
        savedState();
        otherRows();
        Check.end();
    }

    private static EchoMarket market() {
        return Check.described("market;valley v 10 4 5;valley w 4 2 7;customer c 30 100;customer d 100 99;"
                + "shout c v 9 3;pass 10;well 3;");
    }

    /** All that can be asked, as one text. */
    private static String portrait(EchoMarket x) {
        StringBuilder text = new StringBuilder();
        int[] totals = {x.valleyCount(), x.customerCount(), x.shoutCount(), x.time(), x.earned(), x.refunded(),
                x.held(), x.wellDepth(), x.openShouts(), x.bestValley(), x.bestCustomer(), x.angryCustomers(),
                x.nextEvent(), x.violations(), x.earnedAfter(240)};
        for (int total : totals) {
            text.append(total).append(' ');
        }
        text.append(x.meanRating()).append(' ').append(x.heardFraction()).append('\n');
        for (int v = 0; v < x.valleyCount(); v++) {
            int[] of = {x.valleyByte(v, 0), x.width(v), x.walls(v), x.price(v), x.rating(v), x.echoesLost(v),
                    x.earnedIn(v), x.neededLoudness(v, 1)};
            for (int n : of) {
                text.append(n).append(' ');
            }
        }
        for (int c = 0; c < x.customerCount(); c++) {
            int[] of = {x.money(c), x.patience(c), x.suspicion(c), x.echoesHeard(c), x.heldFor(c), x.bestOffer(c, 1)};
            for (int n : of) {
                text.append(n).append(' ');
            }
        }
        for (int s = 0; s < x.shoutCount(); s++) {
            int[] of = {x.shoutCustomer(s), x.shoutValley(s), x.shoutState(s), x.returns(s), x.receipt(s),
                    x.nextReturn(s), x.patienceEnds(s), x.finalState(s)};
            for (int n : of) {
                text.append(n).append(' ');
            }
        }
        return text.toString();
    }

    private static void everyChange() {
        for (int change = 0; change < 10; change++) {
            EchoMarket x = market();
            String before = portrait(x);
            change(x, change);
            Check.due("change " + change + " changes", portrait(x).equals(before), false);
            Check.due("undo of " + change, x.undo(), 0);
            Check.due("portrait after undo of " + change, portrait(x), before);
            Check.state("undo again", () -> x.undo());
        }
    }

    private static void change(EchoMarket x, int change) {
        switch (change) {
            case 0 -> Check.feed(x, "z").addValley(1, 1, 1);
            case 1 -> Check.feed(x, "z").addCustomer(1, 1);
            case 2 -> x.shout(1, 1, 9, 1);
            case 3 -> x.cancel(0);
            case 4 -> x.fake(0);
            case 5 -> x.setFog(0, 9);
            case 6 -> x.setPrice(1, 9);
            case 7 -> x.setWell(9);
            case 8 -> x.pass(30);
            default -> Check.script(x, "shout d w 9 1;pass 9;");
        }
    }

    private static void sixCalls() {
        EchoMarket x = new EchoMarket();
        for (int depth = 1; depth <= 9; depth++) {
            x.setWell(depth);
        }
        for (int left = 5; left >= 0; left--) {
            Check.due("undo", x.undo(), left);
            Check.due("wellDepth", x.wellDepth(), left + 3);
        }
        Check.state("the seventh undo", () -> x.undo());
        Check.due("wellDepth", x.wellDepth(), 3);
        x.setWell(7);
        x.setWell(8);
        Check.due("undo", x.undo(), 1);
        x.setWell(9);
        x.pass(1);
        Check.due("undo", x.undo(), 2);
        Check.due("undo", x.undo(), 1);
        Check.due("wellDepth", x.wellDepth(), 7);
        Check.due("undo", x.undo(), 0);
        Check.due("wellDepth", x.wellDepth(), 3);
        x.setWell(3);
        Check.due("a change to the same is a call too", x.undo(), 0);
    }

    private static void whatStays() {
        EchoMarket x = market();
        Check.run(x, "foo");
        Check.feed(x, "name");
        x.addValley(1, 1, 1);
        x.printReceipt(0);
        x.saveState();
        Check.feed(x, "input");
        x.undo();
        Check.due("the input buffer", x.truncate(5), 5);
        Check.due("the error code", x.errorCode(), 1);
        Check.due("the error offset", x.errorOffset(), 0);
        Check.due("the output", Check.output(x, 10), "c@v h.. 5\n");
        Check.due("valleyCount", x.valleyCount(), 2);
        x.restoreState();
        Check.due("the saved state", x.valleyCount(), 3);
        Check.due("the input buffer stays", x.truncate(5), 5);
        Check.due("the output stays", Check.output(x, 10), "c@v h.. 5\n");
    }

    /** What is restored has nothing of the market that it replaces, and the other way round. */
    private static void otherRows() {
        EchoMarket x = market();
        Check.script(x, "fog v 5;shout d v 12 4;pass 15;fake 0;");
        String saved = portrait(x);
        x.saveState();
        Check.read(x, "market;valley a 1 1 1;valley b 3 2 2;valley g 1 1 1;customer e 9 99;customer f 7 99;pass 9;"
                + "shout f b 1 1;pass 3;shout e a 20 1;pass 1;well 4;shout f b 9 1;fake 2;fog a 9;");
        String other = portrait(x);
        x.restoreState();
        Check.due("portrait", portrait(x), saved);
        Check.read(x, "market;valley a 1 1 1;valley b 3 2 2;valley g 1 1 1;customer e 9 99;customer f 7 99;pass 9;"
                + "shout f b 1 1;pass 3;shout e a 20 1;pass 1;well 4;shout f b 9 1;fake 2;fog a 9;");
        Check.due("portrait of the same text", portrait(x), other);
        x.restoreState();
        Check.script(x, "pass 100;");
        x.undo();
        x.shout(1, 1, 9, 1);
        x.pass(50);
        x.undo();
        x.undo();
        x.shout(1, 1, 9, 2);
        int last = x.shoutCount() - 1;
        Check.due("a new shout is open", x.shoutState(last), 0);
        Check.due("and has not returned", x.returns(last), 0);
        Check.due("or earned", x.receipt(last), 0);
        x.undo();
        Check.due("portrait", portrait(x), saved);
    }

    private static void onlySuccessfulCalls() {
        EchoMarket x = market();
        x.setWell(4);
        Check.argument("setWell(21)", () -> x.setWell(21));
        Check.argument("pass(0)", () -> x.pass(0));
        Check.index("setFog(9, 0)", () -> x.setFog(9, 0));
        Check.argument("setPrice(0, 0)", () -> x.setPrice(0, 0));
        Check.state("shout", () -> x.shout(0, 0, 9, 1));
        Check.index("cancel(9)", () -> x.cancel(9));
        Check.index("fake(9)", () -> x.fake(9));
        Check.state("addValley", () -> x.addValley(1, 1, 1));
        Check.state("addCustomer", () -> x.addCustomer(1, 1));
        Check.due("a wrong script", Check.run(x, "foo"), "1@0");
        x.printReceipt(0);
        x.saveState();
        Check.feed(x, "abc");
        x.truncate(0);
        Check.due("undo", x.undo(), 0);
        Check.due("wellDepth", x.wellDepth(), 3);
    }

    private static void savedState() {
        EchoMarket x = market();
        Check.state("restoreState without a saved one", () -> x.restoreState());
        x.setWell(9);
        Check.due("saveState", x.saveState(), 10);
        Check.due("it can still be undone", x.undo(), 0);
        x.setWell(9);
        String saved = portrait(x);
        x.fake(0);
        x.pass(99);
        Check.feed(x, "z").addCustomer(1, 1);
        Check.due("restoreState", x.restoreState(), 10);
        Check.due("portrait", portrait(x), saved);
        Check.state("nothing can be undone", () -> x.undo());
        x.cancel(0);
        Check.due("undo after restoreState", x.undo(), 0);
        x.pass(7);
        Check.due("it stays saved", x.restoreState(), 10);
        Check.due("portrait", portrait(x), saved);
        x.pass(5);
        Check.due("a later saved state", x.saveState(), 15);
        x.pass(5);
        Check.due("replaces the earlier one", x.restoreState(), 15);
        Check.read(x, "market;pass 3;");
        Check.due("a description keeps it", x.restoreState(), 15);
        Check.due("valleyCount", x.valleyCount(), 2);
        EchoMarket y = new EchoMarket();
        Check.due("saveState of a new market", y.saveState(), 0);
        y.pass(3);
        Check.due("restoreState of a new market", y.restoreState(), 0);
    }
}
