/** Promises 11, 15, 30, 31, 34, 46 to 48 and 56 to 60: seconds, fakes, fog, prices, the well and predictions. */
public final class CalendarTest {
    public static void main(String[] args) {
        passing();
        wrongPassing();
        lastSecond();
        orderInASecond();
        fog();
        prices();
        well();
        fakes();
        anger();
        events();
        earningsToCome();
        finalStates();
        behindTheLastSecond();
        Check.end();
    }

    private static EchoMarket market() {
        return Check.described("market;valley v 10 4 5;valley w 4 2 7;customer c 30 100;customer d 100 99;");
    }

    private static void passing() {
        EchoMarket x = market();
        Check.script(x, "shout c v 20 3;shout d v 20 4;shout c w 20 2;");
        Check.due("pass to the second before", x.pass(3), 0);
        Check.due("pass to a return", x.pass(1), 1);
        Check.due("time", x.time(), 4);
        Check.due("returns of several shouts in several seconds", x.pass(16), 5);
        Check.due("the last return in the second of the last patience", x.pass(10), 2);
        Check.due("which is done", x.shoutState(0), 1);
        Check.due("pass of 240", x.pass(240), 1);
        Check.due("time", x.time(), 270);
        Check.due("undo", x.undo(), 5);
        Check.due("time", x.time(), 30);
    }

    private static void wrongPassing() {
        EchoMarket x = market();
        for (int seconds : new int[] {0, 241, -1, Integer.MIN_VALUE, Integer.MAX_VALUE}) {
            Check.argument("pass(" + seconds + ")", () -> x.pass(seconds));
        }
        Check.due("time", x.time(), 0);
        Check.state("nothing to undo", () -> x.undo());
    }

    private static void lastSecond() {
        EchoMarket x = market();
        for (int i = 0; i < 41; i++) {
            x.pass(240);
        }
        Check.due("time", x.time(), 9840);
        Check.state("pass(160)", () -> x.pass(160));
        Check.argument("argument before state", () -> x.pass(241));
        Check.due("time", x.time(), 9840);
        x.pass(159);
        Check.due("the last second", x.time(), 9999);
        Check.state("pass(1)", () -> x.pass(1));
        Check.due("undo", x.undo(), 5);
        Check.due("a description until the last second", Check.read(new EchoMarket(),
                "market;" + "pass240;".repeat(41) + "pass 159;"), "0");
    }

    private static void orderInASecond() {
        EchoMarket x = Check.described("market;valley v 5 2 5;customer c 10 10;customer d 9 10;shout d v 20 2;"
                + "shout c v 20 2;");
        x.pass(8);
        Check.due("one second before", x.openShouts(), 2);
        Check.due("no return in the second of a lost patience", x.pass(1), 0);
        Check.due("cancelled", x.shoutState(0), 2);
        Check.due("refunded", x.refunded(), 5);
        Check.due("rating does not sink with patience", x.rating(0), 12);
        Check.due("pass", x.pass(1), 1);
        Check.due("done", x.shoutState(1), 1);
        x = Check.described("market;valley v 5 2 5;customer c 5 10;shout c v 20 2;");
        Check.due("a return in the second of a lost patience", x.pass(5), 1);
        Check.due("it counts, and the rest is cancelled", x.shoutState(0), 2);
        Check.due("earned", x.earned(), 5);
        Check.due("refunded", x.refunded(), 5);
        x = Check.described("market;valley v 60 1 5;customer c 1 10;pass 7;shout c v 20 1;");
        Check.due("patience of one second", x.pass(1), 0);
        Check.due("cancelled", x.shoutState(0), 2);
        ascendingReturns();
    }

    /** At a rating of 1 it makes a difference whether a heard or a lost echo comes first. */
    private static void ascendingReturns() {
        String lowRating = "market;valley v 1 4 1;customer c 9 99;customer d 9 99;shout c v 1 4;pass 4;"
                + "shout c v 20 1;pass 1;shout c v 1 1;pass 1;";
        EchoMarket x = Check.described(lowRating + "shout c v 20 1;shout d v 1 1;");
        Check.due("rating", x.rating(0), 1);
        x.pass(1);
        Check.due("heard before lost", x.rating(0), 0);
        x = Check.described(lowRating + "shout c v 1 1;shout d v 20 1;");
        x.pass(1);
        Check.due("lost before heard", x.rating(0), 1);
    }

    private static void fog() {
        EchoMarket x = market();
        x.shout(0, 0, 8, 3);
        Check.due("setFog", x.setFog(0, 5), 0);
        Check.due("setFog", x.setFog(0, 6), 5);
        Check.due("fog of another valley", x.setFog(1, 9), 0);
        x.pass(10);
        Check.due("a loudness of 0 is lost", x.echoesLost(0), 1);
        x.setFog(0, 3);
        x.pass(10);
        Check.due("a loudness of 1 is heard", x.earned(), 5);
        Check.due("the fog of the second of the return counts", x.setFog(0, 9), 3);
        x.pass(10);
        Check.due("and not an earlier one", x.echoesLost(0), 2);
        Check.due("undo", x.undo() + x.undo(), 9);
        Check.due("fog is undone", x.setFog(0, 0), 3);
        for (int n : new int[] {-1, 2, Integer.MIN_VALUE, Integer.MAX_VALUE}) {
            Check.index("setFog(" + n + ", 10)", () -> x.setFog(n, 10));
        }
        for (int n : new int[] {-1, 10, Integer.MIN_VALUE, Integer.MAX_VALUE}) {
            Check.argument("setFog(0, " + n + ")", () -> x.setFog(0, n));
        }
        Check.due("fog", x.setFog(0, 9), 0);
    }

    private static void prices() {
        EchoMarket x = market();
        x.shout(0, 0, 20, 3);
        Check.due("setPrice", x.setPrice(0, 99), 5);
        Check.due("setPrice", x.setPrice(0, 1), 99);
        Check.due("price", x.price(0), 1);
        Check.due("price of the other", x.price(1), 7);
        x.pass(10);
        Check.due("an earlier sale keeps its price", x.earned(), 5);
        x.shout(1, 0, 20, 4);
        Check.due("a later sale has the new price", x.money(1), 95);
        Check.due("undo", x.undo() + x.undo() + x.undo(), 9);
        Check.due("price is undone", x.price(0), 99);
        for (int n : new int[] {-1, 2, Integer.MIN_VALUE, Integer.MAX_VALUE}) {
            Check.index("setPrice(" + n + ", 0)", () -> x.setPrice(n, 0));
        }
        for (int n : new int[] {-1, 0, 100, Integer.MIN_VALUE, Integer.MAX_VALUE}) {
            Check.argument("setPrice(0, " + n + ")", () -> x.setPrice(0, n));
        }
        Check.due("price", x.price(0), 99);
    }

    private static void well() {
        EchoMarket x = market();
        Check.due("setWell", x.setWell(20), 0);
        Check.due("wellDepth", x.wellDepth(), 20);
        Check.due("setWell", x.setWell(0), 20);
        Check.due("wellDepth", x.wellDepth(), 0);
        Check.due("undo", x.undo(), 1);
        Check.due("wellDepth", x.wellDepth(), 20);
        for (int n : new int[] {-1, 21, Integer.MIN_VALUE, Integer.MAX_VALUE}) {
            Check.argument("setWell(" + n + ")", () -> x.setWell(n));
        }
        Check.due("wellDepth", x.wellDepth(), 20);
    }

    private static void fakes() {
        EchoMarket x = market();
        Check.script(x, "shout c v 1 3;fog v 9;shout d w 20 2;");
        Check.due("fake by a dry well", x.fake(0), 0);
        Check.due("is lost", x.echoesLost(0), 1);
        Check.due("rating", x.rating(0), 8);
        Check.due("refunded", x.refunded(), 5);
        x.setWell(1);
        Check.due("fake", x.fake(0), 1);
        Check.due("suspicion", x.suspicion(0), 1);
        Check.due("suspicion of the other", x.suspicion(1), 0);
        Check.due("is earned", x.earned(), 5);
        Check.due("rating", x.rating(0), 9);
        Check.due("echoesHeard", x.echoesHeard(0), 1);
        Check.due("nextReturn", x.nextReturn(0), 30);
        Check.due("the returns at their own times are omitted", x.pass(20), 2);
        Check.due("receipt", Check.output(x, x.printReceipt(0)), "c@v lh. 5\n");
    }

    private static void anger() {
        EchoMarket x = Check.described("market;valley a 10 4 5;valley b 10 4 6;valley c 10 4 7;customer m 99 100;"
                + "customer n 99 99;shout n a 9 4;shout m a 9 4;shout m b 9 2;shout m c 9 2;well 20;");
        x.fake(1);
        x.fake(2);
        Check.due("two faked echoes", x.suspicion(0), 2);
        Check.due("isAngry", x.isAngry(0), false);
        Check.due("angryCustomers", x.angryCustomers(), 0);
        Check.due("the third", x.fake(2), 3);
        Check.due("isAngry", x.isAngry(0), true);
        Check.due("angryCustomers", x.angryCustomers(), 1);
        Check.due("the faked shout is done", x.shoutState(2), 1);
        Check.due("others are cancelled", x.shoutState(1), 2);
        Check.due("others are cancelled", x.shoutState(3), 2);
        Check.due("but not those of others", x.shoutState(0), 0);
        Check.due("refunded", x.refunded(), 29);
        Check.due("money", x.money(0), 83);
        Check.due("held", x.held(), 20);
        Check.state("no more sales", () -> x.shout(0, 0, 9, 1));
        x.fake(0);
        x.fake(0);
        x.fake(0);
        Check.due("a faked shout that is not done is cancelled", x.shoutState(0), 2);
        Check.due("refunded", x.refunded(), 34);
        Check.due("angryCustomers", x.angryCustomers(), 3);
        x.pass(200);
        Check.due("for ever", x.isAngry(0), true);
        x.undo();
        Check.due("undo of the anger", x.undo(), 4);
        Check.due("angryCustomers", x.angryCustomers(), 1);
        Check.due("shoutState(0)", x.shoutState(0), 0);
    }

    private static void events() {
        EchoMarket x = market();
        Check.due("nextEvent without a shout", x.nextEvent(), -1);
        x.shout(0, 0, 20, 4);
        x.pass(1);
        x.shout(1, 1, 20, 2);
        Check.due("the first of several", x.nextEvent(), 5);
        x.pass(4);
        Check.due("the next return of the same shout", x.nextEvent(), 9);
        x.pass(24);
        Check.due("a loss of patience", x.nextEvent(), 30);
        x.pass(1);
        Check.due("no open shout", x.nextEvent(), -1);
    }

    private static void earningsToCome() {
        EchoMarket x = market();
        Check.due("earnedAfter(240) without a shout", x.earnedAfter(240), 0);
        Check.script(x, "shout c v 8 4;shout d w 20 2;");
        Check.due("earnedAfter(0)", x.earnedAfter(0), 0);
        Check.due("earnedAfter(3)", x.earnedAfter(3), 0);
        Check.due("earnedAfter(4)", x.earnedAfter(4), 7);
        Check.due("earnedAfter(10)", x.earnedAfter(10), 19);
        Check.due("earnedAfter(30)", x.earnedAfter(30), 29);
        Check.due("nothing behind the patience", x.earnedAfter(240), 29);
        x.setFog(0, 3);
        Check.due("lost echoes earn nothing", x.earnedAfter(240), 24);
        x.pass(10);
        Check.due("earned", x.earned(), 19);
        Check.due("earnedAfter(0)", x.earnedAfter(0), 19);
        Check.due("earnedAfter(10)", x.earnedAfter(10), 24);
        for (int seconds : new int[] {-1, 241, Integer.MIN_VALUE, Integer.MAX_VALUE}) {
            Check.argument("earnedAfter(" + seconds + ")", () -> x.earnedAfter(seconds));
        }
        Check.due("a prediction changes nothing", x.time() + x.earned(), 29);
    }

    private static void finalStates() {
        EchoMarket x = market();
        Check.script(x, "shout c v 1 3;shout d v 20 4;shout c w 1 2;");
        Check.due("done in the second of the last patience", x.finalState(0), 1);
        Check.due("done", x.finalState(1), 1);
        x.cancel(2);
        Check.due("cancelled already", x.finalState(2), 2);
        x.pass(40);
        Check.due("done already", x.finalState(1), 1);
        x.shout(0, 0, 20, 4);
        Check.due("patience is too short", x.finalState(3), 2);
        x.fake(3);
        x.fake(3);
        x.fake(3);
        Check.due("only the last wall counts", x.finalState(3), 2);
        x.fake(3);
        Check.due("done by fakes", x.finalState(3), 1);
    }

    /** The document bounds the time, but not these answers. */
    private static void behindTheLastSecond() {
        EchoMarket x = market();
        for (int i = 0; i < 41; i++) {
            x.pass(240);
        }
        x.pass(159);
        x.shout(0, 0, 20, 2);
        Check.due("nextReturn", x.nextReturn(0), 10009);
        Check.due("patienceEnds", x.patienceEnds(0), 10029);
        Check.due("nextEvent", x.nextEvent(), 10009);
        Check.due("finalState", x.finalState(0), 1);
        Check.due("earnedAfter", x.earnedAfter(20), 10);
    }
}
