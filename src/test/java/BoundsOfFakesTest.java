import java.util.function.Supplier;

/** Section 5 and the promises on fakes and the well: each sentence that names a bound, at it and beyond it. */
public final class BoundsOfFakesTest {
    public static void main(String[] args) {
        depths();
        depthAsLoudness();
        atOnce();
        omittedReturn();
        lastWall();
        suspicion();
        anger();
        angerCancelsAll();
        angerAmongThirty();
        forEver();
        fifthReason();
        faking();
        angryCustomers();
        Check.end();
    }

    private static EchoMarket market() {
        return Check.described("market;valley v 10 4 5;valley w 4 2 7;customer c 99 100;customer d 99 99;"
                + "shout c v 1 4;shout d w 1 2;");
    }

    private static EchoMarket withWell(int depth) {
        EchoMarket x = market();
        x.setWell(depth);
        return x;
    }

    private static void depths() {
        Check.terms(5, "The market owns a well, which has a depth from 0 to 20 (initially 0).");
        Check.due("a new market", new EchoMarket().wellDepth(), 0);
        Check.due("a described market", market().wellDepth(), 0);
        Check.promise(59, "Throws `IllegalArgumentException` if depth is out of range");
        Bounds.arguments("setWell", () -> withWell(7), 0, 20, (x, n) -> x.setWell(n));
        Bounds.arguments("setWell of a new market", () -> new EchoMarket(), 0, 20, (x, n) -> x.setWell(n));
        Check.promise(59, "Returns the previous depth.");
        EchoMarket x = new EchoMarket();
        Check.due("setWell", x.setWell(20), 0);
        Check.promise(15, "Returns the depth of the well.");
        Check.due("wellDepth", x.wellDepth(), 20);
        Check.due("setWell", x.setWell(20), 20);
        Check.due("setWell", x.setWell(0), 20);
        Check.due("wellDepth", x.wellDepth(), 0);
    }

    private static void depthAsLoudness() {
        Check.terms(5, "as an echo with the depth of the well as its loudness");
        for (int depth = 0; depth <= 20; depth++) {
            for (int fog = 0; fog <= 9; fog += 9) {
                EchoMarket x = withWell(depth);
                x.setFog(0, fog);
                Check.due("suspicion with a depth of " + depth, x.fake(0), depth >= 1 ? 1 : 0);
                Check.due("earned", x.earned(), depth >= 1 ? 5 : 0);
                Check.due("refunded", x.refunded(), depth >= 1 ? 0 : 5);
                Check.due("rating", x.rating(0), depth >= 1 ? 11 : 8);
                Check.due("echoesLost", x.echoesLost(0), depth >= 1 ? 0 : 1);
                Check.due("echoesHeard", x.echoesHeard(0), depth >= 1 ? 1 : 0);
                Check.due("returns", x.returns(0), 1);
                Check.due("heldFor", x.heldFor(0), 15);
            }
        }
    }

    private static void atOnce() {
        Check.terms(5, "the next return of an open shout happens at once");
        EchoMarket x = withWell(1);
        x.fake(0);
        Check.due("no second has passed", x.time(), 0);
        Check.due("returns", x.returns(0), 1);
        x = withWell(1);
        x.pass(10);
        x.fake(0);
        Check.due("behind a return of its own", Check.output(x, x.printReceipt(0)), "c@v lh.. 5\n");
    }

    private static void omittedReturn() {
        Check.terms(5, "and the return from that wall at its own time is omitted");
        EchoMarket x = withWell(1);
        x.fake(0);
        x.cancel(1);
        Check.due("nextReturn", x.nextReturn(0), 20);
        Check.due("no return at the first wall's second", x.pass(19), 0);
        Check.due("but at the second wall's", x.pass(1), 1);
        Check.due("returns", x.returns(0), 2);
        x.fake(0);
        Check.due("nextReturn", x.nextReturn(0), 40);
        Check.due("none until the fourth wall's", x.pass(19), 0);
        Check.due("the fourth wall's", x.pass(1), 1);
        Check.due("it is done", x.shoutState(0), 1);
        Check.due("none any more", x.pass(240), 0);
    }

    private static void lastWall() {
        Check.terms(4, "If the return is from the last wall, the shout is done.");
        EchoMarket x = withWell(0);
        x.fake(1);
        Check.due("a fake before the last wall", x.shoutState(1), 0);
        x.fake(1);
        Check.due("a fake of the last wall", x.shoutState(1), 1);
        Check.due("nextReturn", x.nextReturn(1), -1);
        Check.state("no further fake", () -> x.fake(1));
    }

    private static void suspicion() {
        Check.terms(5, "A faked echo that is heard is earned as usual, but the suspicion of the customer, which is "
                + "initially 0, increases by 1.");
        EchoMarket x = market();
        Check.due("at first", x.suspicion(0), 0);
        for (int i = 0; i < 2; i++) {
            Check.due("a lost fake", x.fake(0), 0);
        }
        x.setWell(1);
        Check.due("a heard fake", x.fake(0), 1);
        Check.due("another one", x.fake(0), 2);
        Check.due("suspicion", x.suspicion(0), 2);
        Check.due("the other customer", x.suspicion(1), 0);
        Check.due("earned", x.earned(), 10);
        x.pass(99);
        Check.due("own returns raise no suspicion", x.suspicion(0) * 10 + x.suspicion(1), 20);
        Check.promise(30, "Returns the suspicion of a customer.");
        Check.due("a new customer", Check.described("market;customer c 1 1;").suspicion(0), 0);
    }

    private static void anger() {
        Check.terms(5, "If the suspicion reaches 3, the customer is angry for ever");
        EchoMarket x = withWell(1);
        boolean[] angry = {false, false, true};
        for (int i = 0; i < 3; i++) {
            Check.due("not yet", x.isAngry(0), false);
            Check.due("fake", x.fake(0), i + 1);
            Check.due("isAngry behind fake " + (i + 1), x.isAngry(0), angry[i]);
            Check.due("the shout behind fake " + (i + 1), x.shoutState(0), angry[i] ? 2 : 0);
        }
        Check.due("the fourth echo is refunded", x.refunded(), 5);
        Check.due("the other customer", x.isAngry(1), false);
        Check.due("the other customer's shout", x.shoutState(1), 0);
    }

    private static void angerCancelsAll() {
        Check.terms(5, "and all open shouts of the customer are cancelled at once, in ascending order, with refunds");
        EchoMarket x = Check.described("market;customer c 240 9999;customer d 240 99;well 20;");
        for (int i = 0; i < 8; i++) {
            Check.feed(x, "v" + (char) ('a' + i)).addValley(60, 4, i + 1);
        }
        for (int i = 0; i < 8; i++) {
            x.shout(0, i, 20, i == 4 ? 3 : 4);
        }
        x.shout(1, 0, 20, 4);
        x.pass(60);
        x.cancel(7);
        x.fake(4);
        x.fake(4);
        Check.due("one fake on an earlier shout", x.fake(2), 3);
        int[] states = {2, 2, 2, 2, 1, 2, 2, 2, 0};
        int[] returns = {1, 1, 2, 1, 3, 1, 1, 1, 1};
        for (int i = 0; i < 9; i++) {
            Check.due("shoutState(" + i + ")", x.shoutState(i), states[i]);
            Check.due("returns(" + i + ")", x.returns(i), returns[i]);
        }
        Check.due("heldFor", x.heldFor(0), 0);
        Check.due("refunded", x.refunded(), 24 + 3 + 6 + 3 * 2 + 12 + 18 + 21);
        Check.due("openShouts", x.openShouts(), 1);
        Check.due("only the other's return", x.pass(60), 1);
    }

    /** The shouts of the angry customer are the first and the last of thirty, and one that was undone. */
    private static void angerAmongThirty() {
        Check.terms(5, "and all open shouts of the customer are cancelled at once");
        EchoMarket x = Check.described("market;valley v 60 4 1;valley w 1 4 1;valley u 60 4 1;customer c 240 99;"
                + "customer d 240 99;well 1;shout c v 9 3;");
        Check.script(x, "repeat 20 (shout d w 9 1;pass 1;);");
        Check.script(x, "repeat 8 (shout d w 9 1;pass 1;);");
        x.shout(0, 2, 9, 4);
        Check.due("shoutCount", x.shoutCount(), 30);
        Check.script(x, "repeat 3 (fake 0;);");
        Check.due("the first", x.shoutState(0), 1);
        Check.due("the thirtieth", x.shoutState(29), 2);
        Check.due("openShouts", x.openShouts(), 0);
        EchoMarket y = Check.described("market;valley v 60 4 1;valley w 60 4 1;customer c 240 99;well 1;shout c v 9 3;");
        y.shout(0, 1, 9, 4);
        y.undo();
        Check.script(y, "repeat 3 (fake 0;);");
        Check.due("nothing is refunded for a shout that was undone", y.refunded(), 0);
        Check.due("money", y.money(0), 96);
    }

    private static void forEver() {
        Check.terms(5, "the customer is angry for ever");
        EchoMarket x = withWell(1);
        Check.script(x, "repeat 3 (fake 0;);well 0;repeat 20 (pass 240;);");
        Check.due("after 4800 seconds", x.isAngry(0), true);
        Check.due("angryCustomers", x.angryCustomers(), 1);
        Check.due("suspicion", x.suspicion(0), 3);
        x.undo();
        Check.due("but undo restores it", x.isAngry(0), false);
        Check.due("a new description begins without anger", Check.read(x, "market;customer c 1 1;"), "0");
        Check.due("isAngry", x.isAngry(0), false);
    }

    private static void fifthReason() {
        Check.terms(5, "No shout is sold to an angry customer, for the reason 5, which comes after the other reasons.");
        Supplier<EchoMarket> angry = () -> {
            EchoMarket x = withWell(1);
            Check.script(x, "repeat 3 (fake 0;);");
            return x;
        };
        EchoMarket x = angry.get();
        Check.due("order 4 of 4 walls", x.refusal(0, 0, 4), 5);
        Check.due("order 3 of 2 walls", x.refusal(0, 1, 3), 2);
        x.setPrice(0, 85);
        Check.due("money of 85", x.money(0) * 10 + x.refusal(0, 0, 1), 855);
        x.setPrice(0, 86);
        Check.due("money of 85 for a price of 86", x.refusal(0, 0, 1), 3);
        x.setPrice(0, 85);
        Check.due("the other customer", x.refusal(1, 0, 1), 0);
        Bounds.state("shout of an angry customer", angry, y -> y.shout(0, 0, 20, 1));
        EchoMarket two = withWell(1);
        Check.script(two, "repeat 2 (fake 0;);cancel 0;");
        Check.due("a suspicion of 2", two.refusal(0, 0, 4), 0);
    }

    private static void faking() {
        Check.promise(56, "Returns the suspicion of its customer afterwards.");
        Check.due("by a dry well", market().fake(0), 0);
        Check.due("by a well", withWell(20).fake(1), 1);
        Check.promise(56, "Throws `IndexOutOfBoundsException` if shout is invalid");
        Bounds.indices("fake", () -> withWell(1), 2, (x, n) -> x.fake(n));
        Bounds.indices("fake without shouts", () -> Check.described("market;valley v 1 1 1;customer c 9 9;"), 0,
                (x, n) -> x.fake(n));
        Check.promise(56, "Throws `IllegalStateException` if the shout is not open");
        Bounds.state("fake of a done shout", () -> Check.described("market;valley v 1 1 1;customer c 9 9;well 1;"
                + "shout c v 20 1;pass 1;"), x -> x.fake(0));
        Bounds.state("fake of a cancelled shout", () -> Check.described("market;valley v 9 1 1;customer c 1 9;well 1;"
                + "shout c v 20 1;pass 1;"), x -> x.fake(0));
        Bounds.state("a fourth fake of the angry customer", () -> {
            EchoMarket x = withWell(1);
            Check.script(x, "repeat 3 (fake 0;);");
            return x;
        }, x -> x.fake(0));
    }

    private static void angryCustomers() {
        Check.promise(34, "Returns the set of the angry customers as a bit mask: bit i stands for customer i.");
        Check.due("a new market", new EchoMarket().angryCustomers(), 0);
        EchoMarket x = Check.described("market;valley v 9 4 1;well 1;");
        int mask = 0;
        for (int i = 0; i < 8; i++) {
            Check.feed(x, "c" + (char) ('a' + i)).addCustomer(99, 99);
            x.shout(i, 0, 20, 4);
        }
        int[] order = {7, 0, 3, 6, 1, 5, 2, 4};
        for (int customer : order) {
            Check.script(x, "repeat 2 (fake " + customer + ";);");
            Check.due("behind two fakes", x.angryCustomers(), mask);
            Check.due("the third", x.fake(customer), 3);
            mask += 1 << customer;
            Check.due("behind three fakes", x.angryCustomers(), mask);
            Check.promise(31, "Returns whether the customer is angry.");
            Check.due("isAngry", x.isAngry(customer), true);
        }
        Check.due("all eight", x.angryCustomers(), 255);
    }
}
