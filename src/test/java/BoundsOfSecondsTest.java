/** Section 4 and the promises on seconds, predictions and measures: each sentence that names a bound. */
public final class BoundsOfSecondsTest {
    private static final String BUSY = "market;valley a 7 4 5;valley b 60 4 99;valley e 1 3 1;customer c 20 900;"
            + "customer d 240 900;fog a 2;shout c a 7 4;shout d b 20 4;pass 3;shout d a 20 3;shout c e 3 3;";

    public static void main(String[] args) {
        lastSecond();
        lastSecondOfTexts();
        secondsOfACall();
        argumentBeforeState();
        returnsOfACall();
        newSecond();
        oneEchoFromEachWall();
        returnsBeforeLosses();
        ascendingReturns();
        severalLosses();
        heardAtLoudnessOne();
        leastRating();
        doneAtTheLastWall();
        patience();
        patienceSinceTheSale();
        nothingBehindTheLoss();
        sumsAtTheBeginning();
        everyEcho();
        nextEvent();
        earnedAfter();
        finalState();
        noBoundOfPredictions();
        violations();
        heardFraction();
        Check.end();
    }

    private static EchoMarket at(int time, String text) {
        EchoMarket x = Check.described(text);
        while (x.time() < time) {
            x.pass(Math.min(240, time - x.time()));
        }
        return x;
    }

    private static EchoMarket at(int time) {
        return at(time, "market;valley v 1 4 1;customer c 9 99;");
    }

    private static void lastSecond() {
        Check.terms(4, "The time is a number of seconds, initially 0 and at most 9999.");
        Check.due("time of a new market", new EchoMarket().time(), 0);
        Check.due("time of a described market", Check.described("market;").time(), 0);
        Check.promise(60, "Throws `IllegalStateException` if the time would exceed 9999");
        for (int left = 0; left < 240; left += left < 2 || left > 236 ? 1 : 47) {
            int most = left;
            if (most > 0) {
                EchoMarket x = at(9999 - most);
                x.pass(most);
                Check.due("the last second", x.time(), 9999);
            }
            Bounds.state("pass beyond it by 1", () -> at(9999 - most), x -> x.pass(most + 1));
            Bounds.state("pass(240)", () -> at(9999 - most), x -> x.pass(240));
        }
        EchoMarket x = at(9759);
        x.pass(240);
        Check.due("240 seconds to the last", x.time(), 9999);
        x.undo();
        Check.due("undo from the last second", x.time(), 9759);
        Check.due("a sale in the last second", at(9999).shout(0, 0, 20, 4), 0);
    }

    private static void lastSecondOfTexts() {
        Check.terms(6, "the number of \"pass\" if the time would exceed 9999");
        String late = "market;" + "pass240;".repeat(41);
        int offset = late.length() + 4;
        Check.due("9998", Check.read(new EchoMarket(), late + "pass158;"), "0");
        Check.due("9999", Check.read(new EchoMarket(), late + "pass159;"), "0");
        Check.due("10000", Check.read(new EchoMarket(), late + "pass160;"), "6@" + offset);
        Check.due("10080", Check.read(new EchoMarket(), late + "pass240;"), "6@" + offset);
        Check.due("one second more", Check.read(new EchoMarket(), late + "pass159;pass1;"), "6@" + (offset + 8));
        Check.terms(7, "Execution ends at the first command whose method throws an exception.");
        Check.due("a script to the last second", Check.run(at(9998), "pass 1;pass 1;"), "1");
        Check.due("a script beyond it", Check.run(at(9998), "pass 2;pass 1;"), "0");
    }

    private static void secondsOfACall() {
        Check.promise(60, "Throws `IllegalArgumentException` if seconds is out of range");
        Bounds.arguments("pass", () -> Check.described(BUSY), 1, 240, (x, n) -> x.pass(n));
        EchoMarket x = at(5);
        x.pass(1);
        Check.due("one second", x.time(), 6);
        x.pass(240);
        Check.due("240 seconds", x.time(), 246);
    }

    private static void argumentBeforeState() {
        Check.terms(8, "If several exceptions apply to a call, the one that stands first in the throws clause is thrown.");
        for (int seconds : new int[] {241, 242, 9999, 10000, Integer.MAX_VALUE, 0, -1, Integer.MIN_VALUE}) {
            Bounds.argument("pass(" + seconds + ") at 9999", () -> at(9999), x -> x.pass(seconds));
        }
    }

    private static void returnsOfACall() {
        Check.promise(60, "Returns the number of returns in these seconds.");
        EchoMarket x = Check.described("market;valley v 1 4 1;valley w 2 4 1;customer c 9 99;customer d 9 99;"
                + "shout c v 1 4;shout d v 20 4;shout c w 20 4;shout d w 1 4;");
        Check.due("two returns in one second", x.pass(1), 2);
        Check.due("four returns in one second", x.pass(1), 4);
        x.fake(0);
        Check.due("a faked one is not among them", x.pass(1), 1);
        x.undo();
        x.undo();
        Check.due("all others in one call", x.pass(240), 10);
        Check.due("none any more", x.pass(240), 0);
    }

    private static void newSecond() {
        Check.terms(4, "When a second passes, the time is incremented, and then everything that is due in the new "
                + "second happens");
        EchoMarket x = Check.described("market;valley v 1 4 1;customer c 9 99;shout c v 20 2;");
        Check.due("nothing in the second of the sale", x.returns(0), 0);
        x.pass(1);
        Check.due("one return in the next", x.returns(0), 1);
    }

    private static void oneEchoFromEachWall() {
        Check.terms(4, "A return is an echo from a wall.");
        EchoMarket x = Check.described("market;valley v 3 4 1;customer c 90 99;shout c v 6 4;");
        Check.due("wall 1", x.pass(3) * 10 + x.earned(), 11);
        Check.due("wall 2", x.pass(3) * 10 + x.earned(), 12);
        Check.due("wall 3, from which it can't be heard", x.pass(3) * 10 + x.earned(), 12);
        Check.due("wall 4", x.pass(3) * 10 + x.echoesLost(0), 12);
        Check.due("no more walls", x.pass(240), 0);
    }

    private static void returnsBeforeLosses() {
        Check.terms(4, "first the returns, by ascending numbers of their shouts, and then the losses of patience");
        EchoMarket x = Check.described("market;valley v 5 2 3;customer c 10 9;customer d 5 9;customer e 4 9;"
                + "shout c v 20 2;shout d v 20 2;shout e v 20 2;");
        Check.due("no return before", x.pass(4), 0);
        Check.due("patience of 4 is lost", x.shoutState(2), 2);
        Check.due("returns in the second of a lost patience", x.pass(1), 2);
        Check.due("patience of 5 is lost behind a return", x.shoutState(1) * 10 + x.returns(1), 21);
        Check.due("the return counts", x.receipt(1), 3);
        Check.due("only the rest is refunded", x.money(1), 6);
        Check.due("the last return in the second of the patience", x.pass(5), 1);
        Check.due("is done", x.shoutState(0), 1);
    }

    /** At a rating of 1 it makes a difference whether a heard or a lost echo comes first. */
    private static void ascendingReturns() {
        Check.terms(4, "first the returns, by ascending numbers of their shouts");
        String low = "market;valley v 1 4 1;customer c 9 99;customer d 9 99;shout c v 1 4;pass 4;shout c v 1 1;pass 1;"
                + "shout c v 20 1;pass 1;";
        EchoMarket x = Check.described(low + "shout c v 20 1;shout d v 1 1;");
        Check.due("rating", x.rating(0), 1);
        x.pass(1);
        Check.due("1 and 1 is 2, less 2 is 0", x.rating(0), 0);
        x = Check.described(low + "shout d v 1 1;shout c v 20 1;");
        x.pass(1);
        Check.due("1 less 2 is 0, and 1 is 1", x.rating(0), 1);
    }

    private static void severalLosses() {
        Check.terms(4, "and then the losses of patience, by ascending numbers of their shouts");
        EchoMarket x = Check.described("market;valley v 60 4 2;valley w 60 4 3;customer c 5 99;customer d 4 99;"
                + "shout c v 9 4;shout c w 9 4;pass 1;shout d v 9 4;");
        x.pass(3);
        Check.due("one second before", x.openShouts(), 3);
        x.pass(1);
        Check.due("all three at once", x.openShouts(), 0);
        Check.due("refunded", x.refunded(), 28);
        Check.due("money", x.money(0) + x.money(1), 198);
    }

    private static void heardAtLoudnessOne() {
        Check.terms(4, "An echo is heard if its loudness is at least 1; then the market earns the price at which the "
                + "echo was sold, and the rating of the valley increases by 1.");
        EchoMarket x = Check.described("market;valley v 1 1 99;customer c 9 999;shout c v 3 1;price v 1;pass 1;");
        Check.due("a loudness of 1 earns", x.earned(), 99);
        Check.due("rating", x.rating(0), 11);
        Check.due("nothing is refunded", x.refunded(), 0);
        Check.terms(4, "Otherwise the echo is lost: its price is refunded to the customer, and the rating of the "
                + "valley decreases by 2.");
        x = Check.described("market;valley v 1 1 99;customer c 9 999;shout c v 2 1;price v 1;pass 1;");
        Check.due("a loudness of 0 earns nothing", x.earned(), 0);
        Check.due("rating", x.rating(0), 8);
        Check.due("refunded", x.refunded(), 99);
        Check.due("money", x.money(0), 999);
    }

    private static void leastRating() {
        Check.terms(4, "The rating of a valley is initially 10 and never less than 0.");
        EchoMarket x = at(0);
        Check.due("at first", x.rating(0), 10);
        int[] due = {8, 6, 4, 2, 0, 0, 0};
        for (int rating : due) {
            Check.script(x, "shout c v 1 1;pass 1;");
            Check.due("after a lost echo", x.rating(0), rating);
        }
        Check.script(x, "shout c v 20 1;pass 1;");
        Check.due("a heard echo at 0", x.rating(0), 1);
        Check.script(x, "shout c v 1 1;pass 1;");
        Check.due("a lost echo at 1", x.rating(0), 0);
        Check.script(x, "repeat 2 (shout c v 20 1;pass 1;);shout c v 1 1;pass 1;");
        Check.due("a lost echo at 2", x.rating(0), 0);
        Check.script(x, "repeat 3 (shout c v 20 1;pass 1;);shout c v 1 1;fake 15;");
        Check.due("a lost fake at 3", x.rating(0), 1);
        Check.script(x, "shout c v 1 1;fake 16;");
        Check.due("a lost fake at 1", x.rating(0), 0);
    }

    private static void doneAtTheLastWall() {
        Check.terms(4, "If the return is from the last wall, the shout is done.");
        for (int loudness : new int[] {1, 20}) {
            for (int order = 1; order <= 4; order++) {
                EchoMarket x = at(0);
                x.shout(0, 0, loudness, order);
                for (int wall = 1; wall <= order; wall++) {
                    Check.due("before wall " + wall + " of " + order, x.shoutState(0), 0);
                    x.pass(1);
                }
                Check.due("behind wall " + order, x.shoutState(0), 1);
            }
        }
    }

    private static void patience() {
        Check.terms(4, "A customer loses patience with an open shout if as many seconds as the patience of the "
                + "customer have passed since its sale and the shout is not done.");
        for (int width : new int[] {1, 3, 59, 60}) {
            for (int order = 1; order <= 4; order++) {
                for (int more = -2; more <= 1; more++) {
                    int patience = width * order + more;
                    if (patience >= 1 && patience <= 240) {
                        patience(width, order, patience);
                    }
                }
            }
        }
    }

    private static void patience(int width, int order, int patience) {
        EchoMarket x = Check.described("market;valley v " + width + " 4 7;customer c " + patience + " 99;");
        x.shout(0, 0, 20, order);
        boolean inTime = width * order <= patience;
        int end = inTime ? width * order : patience;
        String name = "width " + width + ", order " + order + ", patience " + patience;
        Check.due(name + ": finalState", x.finalState(0), inTime ? 1 : 2);
        if (end > 1) {
            x.pass(end - 1);
        }
        Check.due(name + ": before the end", x.shoutState(0), 0);
        x.pass(1);
        Check.due(name + ": at the end", x.shoutState(0), inTime ? 1 : 2);
        Check.due(name + ": returns", x.returns(0), inTime ? order : patience / width);
        Check.due(name + ": refunded", x.refunded(), inTime ? 0 : 7 * (order - patience / width));
    }

    private static void patienceSinceTheSale() {
        Check.terms(4, "if as many seconds as the patience of the customer have passed since its sale");
        EchoMarket x = Check.described("market;valley v 60 4 7;valley w 60 4 7;customer c 5 99;pass 100;shout c v 9 4;"
                + "pass 3;shout c w 9 4;pass 1;");
        Check.due("four seconds", x.openShouts(), 2);
        x.pass(1);
        Check.due("five seconds of the first", x.shoutState(0) * 10 + x.shoutState(1), 20);
        x.pass(2);
        Check.due("four seconds of the second", x.shoutState(1), 0);
        x.pass(1);
        Check.due("five seconds of the second", x.shoutState(1), 2);
    }

    private static void nothingBehindTheLoss() {
        Check.terms(4, "Then the shout is cancelled: it does not return any more, and all echoes that have not returned "
                + "are refunded.");
        EchoMarket x = Check.described("market;valley v 5 4 7;customer c 9 99;shout c v 1 4;");
        x.pass(9);
        Check.due("one lost echo and three that have not returned", x.refunded(), 28);
        Check.due("money", x.money(0), 99);
        Check.due("the rating sinks by the lost echo only", x.rating(0), 8);
        Check.due("echoesLost", x.echoesLost(0), 1);
        Check.due("no return any more", x.pass(240), 0);
        Check.due("returns", x.returns(0), 1);
    }

    private static void sumsAtTheBeginning() {
        EchoMarket x = new EchoMarket();
        Check.promise(12, "Returns the sum of all prices of echoes that have been earned.");
        Check.due("earned in a new market", x.earned(), 0);
        Check.promise(13, "Returns the sum of all refunds.");
        Check.due("refunded in a new market", x.refunded(), 0);
        x = Check.described("market;valley v 1 4 99;customer c 9 9999;customer d 9 9999;");
        Check.script(x, "repeat 15 (shout c v 20 4;pass 4;);");
        Check.script(x, "repeat 15 (shout d v 20 4;pass 4;);");
        Check.due("the most that can be earned", x.earned(), 30 * 396);
        x = Check.described("market;valley v 1 4 99;customer c 9 9999;");
        Check.script(x, "repeat 15 (shout c v 1 4;pass 4;);");
        Check.script(x, "repeat 15 (shout c v 1 4;pass 4;);");
        Check.due("the most that can be refunded", x.refunded(), 30 * 396);
    }

    private static void everyEcho() {
        Check.terms(0, "Every echo that is sold comes back or is refunded.");
        EchoMarket x = Check.described(BUSY);
        int costs = x.held();
        Check.due("the costs", costs, 4 * 5 + 4 * 99 + 3 * 5 + 3);
        x.pass(240);
        Check.due("held", x.held(), 0);
        Check.due("earned or refunded", x.earned() + x.refunded(), costs);
    }

    private static void nextEvent() {
        Check.promise(46, "Returns the next second in which a return or a loss of patience happens; NONE if there is no "
                + "open shout.");
        Check.due("a new market", new EchoMarket().nextEvent(), -1);
        EchoMarket x = Check.described(BUSY);
        EchoMarket y = Check.described(BUSY);
        for (int event = x.nextEvent(); event != -1; event = x.nextEvent()) {
            int ahead = event - x.time();
            int open = y.openShouts();
            Check.due("the event lies ahead", ahead > 0, true);
            Check.due("nothing returns before it", ahead > 1 ? y.pass(ahead - 1) : 0, 0);
            Check.due("no patience is lost before it", y.openShouts(), open);
            Check.due("something happens in it", y.pass(1) > 0 || y.openShouts() < open, true);
            x.pass(ahead);
        }
        Check.due("no open shout is left", x.openShouts(), 0);
        Check.due("the last event", x.time(), 240);
        x = Check.described("market;valley v 9 1 1;customer c 9 9;customer d 8 9;shout c v 1 1;");
        Check.due("a return and the end of patience in one second", x.nextEvent(), 9);
        x.shout(1, 0, 1, 1);
        Check.due("a loss of patience before a return", x.nextEvent(), 8);
        x.cancel(0);
        x.cancel(1);
        Check.due("cancelled shouts have none", x.nextEvent(), -1);
    }

    private static void earnedAfter() {
        Check.promise(47, "Returns earned() after that many seconds.");
        EchoMarket x = Check.described(BUSY);
        Check.due("earnedAfter(0)", x.earnedAfter(0), x.earned());
        for (int seconds = 1; seconds <= 240; seconds++) {
            EchoMarket y = Check.described(BUSY);
            y.pass(seconds);
            Check.due("earnedAfter(" + seconds + ")", x.earnedAfter(seconds), y.earned());
            Check.due("earnedAfter(0) behind " + seconds, y.earnedAfter(0), y.earned());
            Check.due("earnedAfter(240) behind " + seconds, y.earnedAfter(240), 422);
        }
        Check.due("earnedAfter(240)", x.earnedAfter(240), 422);
        Check.due("a new market", new EchoMarket().earnedAfter(240), 0);
        Check.promise(47, "Throws `IllegalArgumentException` if seconds is out of range");
        Bounds.arguments("earnedAfter", () -> Check.described(BUSY), 0, 240, (z, n) -> z.earnedAfter(n));
        Bounds.asksOnly("earnedAfter", () -> Check.described(BUSY), z -> z.earnedAfter(240));
    }

    private static void finalState() {
        Check.promise(48, "Returns 1 if it will be done, 2 if it will be cancelled; its state if it is not open.");
        EchoMarket x = Check.described(BUSY);
        EchoMarket y = Check.described(BUSY);
        y.pass(240);
        int[] due = {2, 1, 1, 1};
        for (int shout = 0; shout < 4; shout++) {
            Check.due("finalState", x.finalState(shout), due[shout]);
            Check.due("what comes of it", y.shoutState(shout), due[shout]);
            Check.due("finalState at the end", y.finalState(shout), due[shout]);
        }
        x.cancel(1);
        Check.due("finalState of a cancelled shout", x.finalState(1), 2);
        Bounds.asksOnly("finalState", () -> Check.described(BUSY), z -> z.finalState(1));
    }

    /** The time is at most 9999, but these promises name no such bound; so they answer as if there were none. */
    private static void noBoundOfPredictions() {
        EchoMarket x = at(9999, "market;valley v 60 4 5;customer c 240 99;customer d 1 99;");
        x.shout(0, 0, 20, 4);
        x.shout(1, 0, 20, 4);
        Check.promise(41, "Returns the second in which it returns next");
        Check.due("nextReturn", x.nextReturn(0), 10059);
        Check.promise(42, "Returns the second of its sale plus the patience of its customer");
        Check.due("patienceEnds", x.patienceEnds(0), 10239);
        Check.promise(46, "Returns the next second in which a return or a loss of patience happens");
        Check.due("nextEvent", x.nextEvent(), 10000);
        Check.promise(47, "Returns earned() after that many seconds.");
        Check.due("earnedAfter", x.earnedAfter(240), 20);
        Check.promise(48, "Returns 1 if it will be done, 2 if it will be cancelled");
        Check.due("finalState", x.finalState(0) * 10 + x.finalState(1), 12);
    }

    private static void violations() {
        Check.promise(49, "plus the number of shouts that are done with fewer returns than ordered; always 0");
        Check.due("a new market", new EchoMarket().violations(), 0);
        EchoMarket x = Check.described(BUSY);
        for (int i = 0; i < 60; i++) {
            Check.due("second " + x.time(), x.violations(), 0);
            x.pass(4);
        }
    }

    private static void heardFraction() {
        Check.promise(51, "Returns the number of heard echoes as a float divided by the number of returned echoes as a "
                + "float; 0.0f if no echo has returned.");
        Check.due("a new market", new EchoMarket().heardFraction(), 0.0f);
        EchoMarket x = Check.described("market;valley v 1 4 1;customer c 9 99;shout c v 1 4;");
        Check.due("no echo has returned", x.heardFraction(), 0.0f);
        x.pass(1);
        Check.due("none was heard", x.heardFraction(), 0.0f);
        x.cancel(0);
        Check.script(x, "shout c v 20 4;pass 2;");
        Check.due("two of three", x.heardFraction(), 2.0f / 3.0f);
        x = Check.described("market;valley v 1 4 1;customer c 9 99;shout c v 20 4;");
        x.pass(4);
        Check.due("all four", x.heardFraction(), 1.0f);
    }
}
