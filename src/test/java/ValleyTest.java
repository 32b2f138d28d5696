/** Promises 8, 17 to 26 and 52: valleys. */
public final class ValleyTest {
    public static void main(String[] args) {
        adding();
        wrongAdding();
        names();
        ranks();
        ratings();
        best();
        invalid();
        Check.end();
    }

    private static EchoMarket add(EchoMarket x, String name, int width, int walls, int price) {
        Check.feed(x, name);
        x.addValley(width, walls, price);
        return x;
    }

    private static void adding() {
        EchoMarket x = Check.feed(new EchoMarket(), "zug");
        Check.due("addValley", x.addValley(60, 4, 99), 0);
        Check.argument("the input is empty", () -> x.truncate(1));
        Check.feed(x, "abcdefgh");
        Check.due("addValley", x.addValley(1, 1, 1), 1);
        Check.due("valleyCount", x.valleyCount(), 2);
        Check.due("width(0)", x.width(0), 60);
        Check.due("walls(0)", x.walls(0), 4);
        Check.due("price(0)", x.price(0), 99);
        Check.due("rating(0)", x.rating(0), 10);
        Check.due("echoesLost(0)", x.echoesLost(0), 0);
        Check.due("earnedIn(0)", x.earnedIn(0), 0);
        Check.due("neededLoudness without fog", x.neededLoudness(0, 1), 3);
        Check.due("width(1)", x.width(1), 1);
        Check.due("walls(1)", x.walls(1), 1);
        Check.due("price(1)", x.price(1), 1);
        Check.due("undo", x.undo(), 1);
        Check.due("valleyCount", x.valleyCount(), 1);
        Check.index("width(1)", () -> x.width(1));
    }

    private static void wrongAdding() {
        EchoMarket x = Check.feed(new EchoMarket(), "v");
        int[][] wrong = {{0, 1, 1}, {61, 1, 1}, {1, 0, 1}, {1, 5, 1}, {1, 1, 0}, {1, 1, 100}, {-1, 1, 1},
                {Integer.MIN_VALUE, 1, 1}, {1, Integer.MAX_VALUE, 1}, {1, 1, Integer.MIN_VALUE}};
        for (int[] w : wrong) {
            Check.argument("addValley " + w[0] + " " + w[1] + " " + w[2], () -> x.addValley(w[0], w[1], w[2]));
        }
        Check.due("the name stays", x.truncate(1), 1);
        for (String name : new String[] {"", "abcdefghi", "a b", "a1", "A", "a ", " a", "a\n", "\u00e9", "{", "`"}) {
            Check.feed(clear(x), name);
            Check.state("addValley named " + name, () -> x.addValley(1, 1, 1));
            Check.argument("argument before state, named " + name, () -> x.addValley(0, 1, 1));
            Check.due("the name stays", x.truncate(name.length()), name.length());
        }
        Check.due("valleyCount", x.valleyCount(), 0);
        Check.state("nothing to undo", () -> x.undo());
        Check.feed(clear(x), "v");
        x.addValley(1, 1, 1);
        Check.feed(x, "v");
        Check.state("a valley with the same name", () -> x.addValley(2, 2, 2));
        Check.due("a customer may have it", x.addCustomer(1, 1), 0);
        for (int i = 1; i < 8; i++) {
            add(x, "v" + (char) ('a' + i), 1, 1, 1);
        }
        Check.feed(x, "ninth");
        Check.state("a ninth valley", () -> x.addValley(1, 1, 1));
        Check.due("the name stays", x.truncate(5), 5);
        Check.due("valleyCount", x.valleyCount(), 8);
    }

    private static EchoMarket clear(EchoMarket x) {
        x.truncate(0);
        return x;
    }

    private static void names() {
        EchoMarket x = add(add(new EchoMarket(), "abcdefgh", 1, 1, 1), "ab", 1, 1, 1);
        Check.due("valleyByte(0, 0)", x.valleyByte(0, 0), 'a');
        Check.due("valleyByte(0, 7)", x.valleyByte(0, 7), 'h');
        Check.due("valleyByte(0, 8)", x.valleyByte(0, 8), -1);
        Check.due("valleyByte(0, -1)", x.valleyByte(0, -1), -1);
        Check.due("valleyByte(1, 1)", x.valleyByte(1, 1), 'b');
        Check.due("valleyByte(1, 2)", x.valleyByte(1, 2), -1);
        Check.due("valleyByte(1, 7)", x.valleyByte(1, 7), -1);
        Check.due("valleyByte(1, greatest)", x.valleyByte(1, Integer.MAX_VALUE), -1);
        Check.due("valleyByte(1, least)", x.valleyByte(1, Integer.MIN_VALUE), -1);
        Check.index("valleyByte(2, 0)", () -> x.valleyByte(2, 0));
        Check.index("valleyByte(-1, 0)", () -> x.valleyByte(-1, 0));
        Check.feed(x, "abc");
        Check.due("findValley abc", x.findValley(), -1);
        x.truncate(2);
        Check.due("findValley ab", x.findValley(), 1);
        Check.due("findCustomer ab", x.findCustomer(), -1);
        Check.due("the input is kept", x.truncate(2), 2);
        Check.due("findValley a", x.truncate(1) + x.findValley(), 0);
        x.truncate(0);
        Check.feed(x, "abcdefghi");
        Check.due("findValley of nine letters", x.findValley(), -1);
        x.truncate(8);
        Check.due("findValley of eight letters", x.findValley(), 0);
        Check.due("findValley of spaces", Check.feed(clear(x), "ab ").findValley(), -1);
        Check.due("findValley of a zero byte", Check.feed(clear(x), "ab\0").findValley(), -1);
    }

    private static void ranks() {
        EchoMarket x = new EchoMarket();
        for (String name : new String[] {"b", "ab", "a", "abc", "zz", "aaaaaaaa", "z", "ba"}) {
            add(x, name, 1, 1, 1);
        }
        int[] due = {2, 5, 1, 3, 0, 7, 6, 4};
        for (int rank = 0; rank < 8; rank++) {
            Check.due("valleyByName(" + rank + ")", x.valleyByName(rank), due[rank]);
        }
        Check.due("valleyByName(-1)", x.valleyByName(-1), -1);
        Check.due("valleyByName(8)", x.valleyByName(8), -1);
        Check.due("valleyByName(greatest)", x.valleyByName(Integer.MAX_VALUE), -1);
        Check.due("valleyByName(least)", x.valleyByName(Integer.MIN_VALUE), -1);
        Check.due("valleyByName(0) of none", new EchoMarket().valleyByName(0), -1);
    }

    private static void ratings() {
        EchoMarket x = Check.described("market;valley v 1 4 5;valley w 1 1 3;customer c 99 999;customer d 9 9;"
                + "shout c v 7 4;");
        x.pass(1);
        Check.due("rating after a heard echo", x.rating(0), 11);
        Check.due("earnedIn after a heard echo", x.earnedIn(0), 5);
        x.pass(2);
        Check.due("rating after three heard echoes", x.rating(0), 13);
        x.pass(1);
        Check.due("rating after a lost echo", x.rating(0), 11);
        Check.due("echoesLost", x.echoesLost(0), 1);
        Check.due("earnedIn", x.earnedIn(0), 15);
        Check.due("echoesLost of the other", x.echoesLost(1), 0);
        Check.due("earnedIn of the other", x.earnedIn(1), 0);
        Check.script(x, "shout c v 1 4;shout d v 1 1;pass 1;");
        Check.due("rating after two more", x.rating(0), 7);
        x.setPrice(0, 9);
        x.pass(3);
        Check.due("rating after three more", x.rating(0), 1);
        Check.script(x, "shout c v 1 1;pass 1;");
        Check.due("a rating is never negative", x.rating(0), 0);
        Check.script(x, "shout c v 1 1;pass 1;");
        Check.due("a rating of 0 stays", x.rating(0), 0);
        Check.due("echoesLost of several shouts", x.echoesLost(0), 8);
        Check.script(x, "shout c v 20 1;pass 1;");
        Check.due("a rating of 0 increases by 1", x.rating(0), 1);
        Check.due("earnedIn adds prices of the sale", x.earnedIn(0), 24);
        Check.script(x, "shout c v 20 1;fake 6;");
        Check.due("a lost fake counts", x.echoesLost(0), 9);
        Check.script(x, "well 1;shout c v 20 1;fake 7;");
        Check.due("a heard fake earns", x.earnedIn(0), 33);
    }

    private static void best() {
        EchoMarket x = Check.described("market;valley a 1 1 5;valley b 1 1 4;valley c 1 1 4;customer m 9 99;");
        Check.due("the smallest price, then the smallest number", x.bestValley(), 1);
        x.setPrice(2, 3);
        Check.due("the smallest price", x.bestValley(), 2);
        Check.script(x, "shout m a 20 1;pass 1;");
        Check.due("the greatest rating", x.bestValley(), 0);
        Check.script(x, "shout m a 1 1;pass 1;");
        Check.due("not a lower rating", x.bestValley(), 2);
        x.setPrice(0, 1);
        Check.due("not a low price", x.bestValley(), 2);
        x.setPrice(1, 3);
        Check.due("the smallest number of equal ones", x.bestValley(), 1);
    }

    private static void invalid() {
        EchoMarket x = Check.described("market;valley a 1 1 5;valley b 1 1 4;customer m 9 99;customer n 9 99;"
                + "customer o 9 99;shout m a 1 1;shout n a 1 1;shout o a 1 1;");
        for (int v : new int[] {-1, 2, 8, Integer.MIN_VALUE, Integer.MAX_VALUE}) {
            Check.index("width(" + v + ")", () -> x.width(v));
            Check.index("walls(" + v + ")", () -> x.walls(v));
            Check.index("price(" + v + ")", () -> x.price(v));
            Check.index("rating(" + v + ")", () -> x.rating(v));
            Check.index("echoesLost(" + v + ")", () -> x.echoesLost(v));
            Check.index("earnedIn(" + v + ")", () -> x.earnedIn(v));
            Check.index("valleyByte(" + v + ")", () -> x.valleyByte(v, 0));
        }
        Check.due("width(1)", x.width(1), 1);
    }
}
