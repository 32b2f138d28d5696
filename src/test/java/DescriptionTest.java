/** Promise 4 and section 6: descriptions, their error codes and offsets. */
public final class DescriptionTest {
    private static final String PART = "market;valley v 1 2 3;customer c 9 9;";

    public static void main(String[] args) {
        statements();
        tokens();
        grammar();
        ranges();
        names();
        ninths();
        impossible();
        smallestCodes();
        replacing();
        replacingAll();
        failing();
        Check.end();
    }

    /** The error of a text behind a part that has 37 bytes, a valley v and a customer c. */
    private static void behindPart(String text, String want) {
        Check.due("readText of .." + text, Check.read(new EchoMarket(), PART + text), want);
    }

    private static void whole(String text, String want) {
        Check.due("readText of " + text, Check.read(new EchoMarket(), text), want);
    }

    private static void statements() {
        EchoMarket x = Check.described("market;valley zug 10 3 5;valley alm 4 2 7;customer ann 25 40;"
                + "customer bob 100 19;fog zug 2;price alm 9;well 6;pass 7;shout ann zug 20 3;shout bob alm 6 2;"
                + "fake 0;pass 4;fog alm 9;");
        Check.due("valleyCount", x.valleyCount(), 2);
        Check.due("customerCount", x.customerCount(), 2);
        Check.due("shoutCount", x.shoutCount(), 2);
        Check.due("width(0)", x.width(0), 10);
        Check.due("walls(0)", x.walls(0), 3);
        Check.due("price(0)", x.price(0), 5);
        Check.due("price(1)", x.price(1), 9);
        Check.due("patience(0)", x.patience(0), 25);
        Check.due("money(0)", x.money(0), 25);
        Check.due("money(1)", x.money(1), 1);
        Check.due("wellDepth", x.wellDepth(), 6);
        Check.due("wellDepth after a price", Check.described("market;valley v 1 1 1;price v 7;").wellDepth(), 0);
        Check.due("time", x.time(), 11);
        Check.due("shoutCustomer(1)", x.shoutCustomer(1), 1);
        Check.due("shoutValley(1)", x.shoutValley(1), 1);
        Check.due("suspicion(0)", x.suspicion(0), 1);
        Check.due("returns(1)", x.returns(1), 1);
        Check.due("nextReturn(0)", x.nextReturn(0), 27);
        Check.due("patienceEnds(0)", x.patienceEnds(0), 32);
        Check.due("earned", x.earned(), 14);
        Check.due("fog of zug", x.setFog(0, 0), 2);
        Check.due("fog of alm", x.setFog(1, 0), 9);
        Check.due("valleyByName(0)", x.valleyByName(0), 1);
        Check.due("findCustomer", Check.feed(x, "bob").findCustomer(), 1);
    }

    private static void tokens() {
        whole("\n market \n;\n", "0");
        whole("market;valley v1 2 3;customer c9 9;shout c v9 1;pass1;fog v9;", "1");
        whole("market;valleyv 1 2 3;", "1@7");
        whole("market;well 0020;", "0");
        whole("market;well 00020;", "1@12");
        whole("market;pass 02405;", "1@12");
        whole("market;valley abcdefgh 1 1 1;", "0");
        whole("market;valley abcdefghi 1 1 1;", "1@14");
        whole("marketmarket;", "1@0");
        whole("Market;", "1@0");
        whole("market\t;", "1@6");
        whole("market\r;", "1@6");
        whole("market;\0", "1@7");
        whole("market;\u00e9", "1@7");
        whole("market;{", "1@7");
        whole("market;`", "1@7");
        whole("market;/", "1@7");
        whole("market;:", "1@7");
        whole("market;well -1;", "1@12");
    }

    private static void grammar() {
        whole("", "1@0");
        whole("  \n", "1@3");
        whole("x;", "1@0");
        whole("market", "1@6");
        whole("market  ", "1@8");
        whole("market;", "0");
        whole("market;;", "1@7");
        whole("market;market;", "1@7");
        whole("market(", "1@6");
        whole("valley v 1 1 1;", "1@0");
        for (String word : new String[] {"cancel", "repeat", "wells", "wel", "v", "1", "(", ")", "xell", "welt", "wall"}) {
            behindPart(word + " 1;", "1@37");
        }
        behindPart("valley", "1@43");
        behindPart("valley 1", "1@44");
        behindPart("valley w", "1@45");
        behindPart("valley w 1 1 1", "1@51");
        behindPart("valley w 1 1 x", "1@50");
        behindPart("valley w 1 1 1 1;", "1@52");
        behindPart("customer ; ", "1@46");
        behindPart("customer d 1 1)", "1@51");
        behindPart("shout 1", "1@43");
        behindPart("shout c 1", "1@45");
        behindPart("shout c v x", "1@47");
        behindPart("shout c v 1;", "1@48");
        behindPart("shout c v 1 1", "1@50");
        behindPart("shout c v 1 1 ;", "1");
        behindPart("fog 1", "1@41");
        behindPart("fog v v", "1@43");
        behindPart("price v", "1@44");
        behindPart("well", "1@41");
        behindPart("well 1", "1@43");
        behindPart("pass x", "1@42");
        behindPart("fake v", "1@42");
        behindPart("shout c v 1 1;fake 0", "1@57");
    }

    private static void ranges() {
        for (String bad : new String[] {"valley w 0 1 1;2@46", "valley w 61 1 1;2@46", "valley w 1 0 1;2@48",
                "valley w 1 5 1;2@48", "valley w 1 1 0;2@50", "valley w 1 1 100;2@50", "customer d 0 1;2@48",
                "customer d 241 1;2@48", "shout c v 0 1;2@47", "shout c v 21 1;2@47", "shout c v 1 0;2@49",
                "shout c v 1 5;2@49", "fog v 10;2@43", "price v 0;2@45", "price v 100;2@45", "well 21;2@42",
                "pass 0;2@42", "pass 241;2@42", "fake 0;2@42", "shout c v 1 1;fake 1;2@56"}) {
            int end = bad.lastIndexOf(';') + 1;
            behindPart(bad.substring(0, end), bad.substring(end));
        }
        behindPart("valley w 60 4 99;valley x 1 1 1;customer d 240 9999;customer e 1 0;fog v 9;fog v 0;price v 99;"
                + "price v 1;well 20;well 0;pass 240;pass 1;shout d v 20 2;shout c v 1 1;fake 1;", "2");
    }

    private static void names() {
        behindPart("valley v 1 1 1;", "3@44");
        behindPart("customer c 1 1;", "3@46");
        behindPart("valley c 1 1 1;customer v 1 1;fog c 1;shout v c 1 1;", "1");
        behindPart("shout v v 1 1;", "4@43");
        behindPart("shout c c 1 1;", "4@45");
        behindPart("fog c 1;", "4@41");
        behindPart("price w 1;", "4@43");
        behindPart("fog v1;fog vv 1;", "4@48");
        behindPart("valley fog 1 1 1;valley valley 1 1 1;customer shout 9 9;fog fog 1;fog valley 2;"
                + "shout shout valley 1 1;", "1");
        whole("market;valley market 1 1 1;fog market 3;", "0");
        whole("market;fog v 1;valley v 1 1 1;", "4@11");
    }

    private static void ninths() {
        StringBuilder text = new StringBuilder("market;");
        for (int i = 0; i < 8; i++) {
            text.append("valley v").append((char) ('a' + i)).append(" 1 1 1;customer v").append((char) ('a' + i))
                    .append(" 1 1;");
        }
        int length = text.length();
        EchoMarket x = new EchoMarket();
        Check.due("eight of each", Check.read(x, text.toString()), "0");
        Check.due("valleyCount", x.valleyCount(), 8);
        Check.due("customerCount", x.customerCount(), 8);
        whole(text + " valley va 1 1 1;", "5@" + (length + 1));
        whole(text + "customer", "5@" + length);
        whole(text + "valleys", "1@" + length);
    }

    private static void impossible() {
        behindPart("shout c v 1 2;", "1");
        behindPart("shout c v 1 3 ;", "6@51");
        behindPart("price v 5;shout c v 1 2\n;", "6@61");
        behindPart("shout c v 1 1;shout c v 1 1;", "6@64");
        behindPart("shout c v 1 1;pass 1;shout c v 1 1;", "2");
        behindPart("shout c v 1 1;pass 1;fake 0;", "6@63");
        behindPart("shout c v 1 1;fake 0;fake 0;", "6@63");
        behindPart("shout c v 1 2;fake 0;fake 0;fake 0;", "6@70");
        String late = "market;valley v 1 2 3;customer c 9 9;" + "pass240;".repeat(41);
        whole(late + "pass 159;", "0");
        whole(late + "pass 160;", "6@370");
        whole(late + "pass 241;", "2@370");
        String sales = "market;valley v1 1 1;valley w1 1 1;customer c9 99;"
                + "shout c v9 1;shout c w9 1;pass1;".repeat(15);
        whole(sales, "30");
        whole(sales + "shout c v9 1;", "6@" + (sales.length() + 12));
        String angry = "well 1;" + "shout c v 9 1;fake 0;shout c v 9 1;fake 1;";
        behindPart(angry + "price v 1;shout c v 9 1;fake 2;shout c v 9 1;", "6@130");
        behindPart(angry + "price v 1;shout c v 9 1;", "3");
    }

    /** Of several codes of one token the smallest, but always of the first token. */
    private static void smallestCodes() {
        behindPart("valley v 61 1 1;", "3@44");
        behindPart("fog w 10;", "4@41");
        behindPart("fog v 10 w", "2@43");
        behindPart("shout c v 1 3", "1@50");
        behindPart("shout c v 1 3)", "1@50");
        behindPart("shout c v 21 5;", "2@47");
        behindPart("fake 12345;", "1@42");
    }

    private static void replacing() {
        EchoMarket x = Check.described("market;valley a 1 1 1;customer b 9 9;shout b a 9 1;well 9;pass 3;");
        x.saveState();
        x.printReceipt(0);
        x.setWell(1);
        Check.due("readText", Check.read(x, "market;valley z 1 1 1;"), "0");
        Check.due("valleyCount", x.valleyCount(), 1);
        Check.due("customerCount", x.customerCount(), 0);
        Check.due("shoutCount", x.shoutCount(), 0);
        Check.due("time", x.time(), 0);
        Check.due("wellDepth", x.wellDepth(), 0);
        Check.due("earned", x.earned(), 0);
        Check.due("held", x.held(), 0);
        Check.due("refunded", x.refunded(), 0);
        Check.due("heardFraction", x.heardFraction(), 0.0f);
        Check.due("earnedIn", x.earnedIn(0), 0);
        Check.due("rating", x.rating(0), 10);
        Check.due("the output stays", Check.output(x, 8), "b@a h 1\n");
        Check.state("nothing can be undone", () -> x.undo());
        Check.due("the saved state stays", x.restoreState(), 3);
        Check.due("customerCount", x.customerCount(), 1);
    }

    /** Nothing of an earlier description may be left in a later one. */
    private static void replacingAll() {
        String later = "market;valley v 1 4 1;customer c 9 99;";
        EchoMarket x = Check.described(later + "valley w 1 4 1;shout c v 1 4;pass 1;shout c w 9 4;well 9;fake 1;fake 1;fog w 5;");
        Check.due("refunded", x.refunded(), 1);
        Check.due("held", x.held(), 5);
        Check.read(x, later + "valley w 1 1 1;");
        int[] sums = {x.earned(), x.refunded(), x.held(), x.openShouts(), x.shoutCount(), x.wellDepth(), x.time(),
                x.echoesLost(0), x.earnedIn(0), x.echoesLost(1), x.earnedIn(1), x.suspicion(0), x.echoesHeard(0),
                x.heldFor(0), x.angryCustomers(), x.violations()};
        for (int i = 0; i < sums.length; i++) {
            Check.due("sum " + i, sums[i], 0);
        }
        Check.due("heardFraction", x.heardFraction(), 0.0f);
        Check.due("meanRating", x.meanRating(), 10.0);
        Check.due("neededLoudness", x.neededLoudness(0, 1) + x.neededLoudness(1, 1), 6);
        Check.due("shout", x.shout(0, 0, 9, 2), 0);
        Check.due("shoutState", x.shoutState(0), 0);
        Check.due("returns", x.returns(0), 0);
        Check.due("receipt", x.receipt(0), 0);
        x.pass(1);
        Check.due("heardFraction", x.heardFraction(), 1.0f);
    }

    private static void failing() {
        EchoMarket x = Check.described("market;valley a 1 1 1;customer b 9 9;shout b a 9 1;well 9;");
        x.pass(3);
        Check.due("an error", Check.read(x, "market;valley z 1 1 1;well 30;"), "2@27");
        Check.argument("the input is empty", () -> x.truncate(1));
        Check.due("time", x.time(), 3);
        Check.due("shoutCount", x.shoutCount(), 1);
        Check.due("valleyByte", x.valleyByte(0, 0), 'a');
        Check.due("undo is still possible", x.undo(), 0);
        Check.due("time", x.time(), 0);
        Check.due("a valid text after an error", Check.read(x, "market;well 3;"), "0");
        Check.due("valleyCount", x.valleyCount(), 0);
    }
}
