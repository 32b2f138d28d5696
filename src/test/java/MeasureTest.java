/** Promises 49 to 51: invariants and measures. */
public final class MeasureTest {
    public static void main(String[] args) {
        violations();
        meanRating();
        heardFraction();
        Check.end();
    }

    private static void violations() {
        EchoMarket x = Check.described("market;valley v 10 4 5;valley w 4 2 7;customer c 30 100;customer d 100 99;"
                + "shout c v 7 3;shout d w 1 2;");
        Check.due("after sales", x.violations(), 0);
        x.pass(12);
        Check.due("after returns", x.violations(), 0);
        x.setPrice(0, 50);
        x.cancel(0);
        Check.due("after a cancelled shout", x.violations(), 0);
        Check.script(x, "well 1;shout c v 1 2;fake 2;fake 2;shout c w 9 1;fake 3;");
        Check.due("after anger", x.violations(), 0);
        x.pass(200);
        Check.due("at the end", x.violations(), 0);
        Check.due("undo", x.undo() + x.violations(), 4);
    }

    private static void meanRating() {
        EchoMarket x = new EchoMarket();
        Check.due("no valley", x.meanRating(), 0.0);
        Check.read(x, "market;valley a 1 1 1;valley b 1 1 1;valley c 1 1 1;customer m 9 9;");
        Check.due("at first", x.meanRating(), 10.0);
        Check.script(x, "shout m a 9 1;pass 1;");
        Check.due("31 by 3", x.meanRating(), 31.0 / 3.0);
        Check.script(x, "shout m b 1 1;pass 1;");
        Check.due("29 by 3", x.meanRating(), 29.0 / 3.0);
    }

    private static void heardFraction() {
        EchoMarket x = Check.described("market;valley v 1 4 1;customer c 99 99;customer d 99 99;shout c v 3 3;");
        Check.due("no return", x.heardFraction(), 0.0f);
        x.pass(1);
        Check.due("all heard", x.heardFraction(), 1.0f);
        x.pass(1);
        Check.due("one of two", x.heardFraction(), 0.5f);
        x.pass(1);
        Check.due("one of three", x.heardFraction(), 1.0f / 3.0f);
        x.shout(1, 0, 20, 4);
        x.fake(1);
        Check.due("a lost fake counts", x.heardFraction(), 0.25f);
        x.setWell(1);
        x.fake(1);
        Check.due("a heard fake counts", x.heardFraction(), 2.0f / 5.0f);
        x.cancel(1);
        Check.due("cancelled echoes do not count", x.heardFraction(), 2.0f / 5.0f);
        x.undo();
        x.undo();
        Check.due("undo", x.heardFraction(), 0.25f);
    }
}
