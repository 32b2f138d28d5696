import java.util.function.Supplier;

/** Section 1 and the promises on valleys: each sentence that names a bound, at it and beyond it. */
public final class BoundsOfValleysTest {
    public static void main(String[] args) {
        eightValleys();
        noNinthValley();
        uniqueNames();
        lettersOfNames();
        lengthsOfNames();
        numbersOfAValley();
        firstFog();
        secondsOfReturns();
        loudness();
        fogOfTheSecond();
        bytesOfNames();
        findingByTheWholeInput();
        askingForAValley();
        rating();
        lostEchoes();
        earnings();
        bestValley();
        ranks();
        neededLoudness();
        previousFogAndPrice();
        addingValleys();
        meanRating();
        Check.end();
    }

    private static EchoMarket valleys(int count) {
        EchoMarket x = new EchoMarket();
        for (int i = 0; i < count; i++) {
            Check.feed(x, nameOf(i)).addValley(i + 1, 1, 1);
        }
        return x;
    }

    private static String nameOf(int number) {
        return "v" + (char) ('a' + number);
    }

    private static void eightValleys() {
        Check.terms(1, "There are 1 to 8 valleys, numbered from 0 in the order in which they were added.");
        Check.due("valleys of a new market", new EchoMarket().valleyCount(), 0);
        EchoMarket x = new EchoMarket();
        for (int i = 0; i < 8; i++) {
            Check.feed(x, nameOf(i));
            Check.due("addValley", x.addValley(i + 1, 1, 1), i);
            Check.due("valleyCount", x.valleyCount(), i + 1);
        }
        for (int i = 0; i < 8; i++) {
            Check.due("width", x.width(i), i + 1);
            Check.due("findValley", Check.feed(x, nameOf(i)).findValley(), i);
            x.truncate(0);
        }
        Check.promise(8, "Returns the number of valleys.");
        Check.due("valleyCount", x.valleyCount(), 8);
    }

    private static void noNinthValley() {
        Check.promise(52, "Throws `IllegalStateException` if the input buffer is not 1 to 8 letters a to z, a valley "
                + "has this name, or there are 8 valleys");
        Bounds.state("a ninth valley", () -> Check.feed(valleys(8), "ninth"), x -> x.addValley(1, 1, 1));
        Bounds.taken("an eighth valley", () -> Check.feed(valleys(7), "eighth"), x -> x.addValley(1, 1, 1));
        EchoMarket x = valleys(8);
        x.undo();
        Check.due("an eighth valley after undo", Check.feed(x, "again").addValley(60, 4, 99), 7);
    }

    private static void uniqueNames() {
        Check.promise(52, "a valley has this name");
        Bounds.state("the name of the first valley", () -> Check.feed(valleys(7), "va"), x -> x.addValley(1, 1, 1));
        Bounds.state("the name of the last valley", () -> Check.feed(valleys(7), "vg"), x -> x.addValley(1, 1, 1));
        Bounds.taken("another name", () -> Check.feed(valleys(7), "vh"), x -> x.addValley(1, 1, 1));
        Bounds.taken("the beginning of a name", () -> Check.feed(valleys(7), "v"), x -> x.addValley(1, 1, 1));
        Bounds.taken("a longer name", () -> Check.feed(valleys(7), "vaa"), x -> x.addValley(1, 1, 1));
        Supplier<EchoMarket> eightLetters = () -> Check.described("market;valley abcdefgh 1 1 1;");
        Bounds.state("the same eight letters", () -> Check.feed(eightLetters.get(), "abcdefgh"),
                x -> x.addValley(1, 1, 1));
        Bounds.taken("another eighth letter", () -> Check.feed(eightLetters.get(), "abcdefgi"),
                x -> x.addValley(1, 1, 1));
        Bounds.taken("another first letter", () -> Check.feed(eightLetters.get(), "bbcdefgh"),
                x -> x.addValley(1, 1, 1));
        Bounds.taken("the name of a customer", () -> Check.feed(Check.described("market;customer c 1 1;"), "c"),
                x -> x.addValley(1, 1, 1));
        EchoMarket x = Check.feed(new EchoMarket(), "v");
        x.addValley(1, 1, 1);
        x.undo();
        Check.due("a name that was undone", Check.feed(x, "v").addValley(2, 2, 2), 0);
    }

    private static void lettersOfNames() {
        Check.terms(1, "A valley has a unique name of 1 to 8 letters a to z");
        for (int sign = 0; sign < 256; sign++) {
            String one = "" + (char) sign;
            for (String name : new String[] {one, "a" + one, one + "a", "abcdefg" + one}) {
                EchoMarket x = Check.feed(new EchoMarket(), name);
                boolean isLetter = sign >= 'a' && sign <= 'z';
                Check.due("addValley with the byte " + sign, Check.answer(() -> x.addValley(1, 1, 1)),
                        isLetter ? "0" : IllegalStateException.class.getName());
                Check.due("valleyCount", x.valleyCount(), isLetter ? 1 : 0);
                for (int i = 0; isLetter && i < name.length(); i++) {
                    Check.due("valleyByte", x.valleyByte(0, i), name.charAt(i));
                }
            }
        }
    }

    private static void lengthsOfNames() {
        Check.promise(52, "if the input buffer is not 1 to 8 letters a to z");
        for (int length : new int[] {1, 2, 7, 8}) {
            EchoMarket x = Check.feed(new EchoMarket(), "z".repeat(length));
            Check.due("addValley with " + length + " letters", x.addValley(1, 1, 1), 0);
            Check.due("the last letter", x.valleyByte(0, length - 1), 'z');
            Check.due("behind the last letter", x.valleyByte(0, length), -1);
            Check.due("the input is empty", x.feed(0, 0, 0, 0, 0), 20);
        }
        for (int length : new int[] {0, 9, 10, 16, 17, 256, 257, 264, 599, 600}) {
            Bounds.state("addValley with " + length + " letters",
                    () -> Check.feed(new EchoMarket(), "z".repeat(length)), x -> x.addValley(1, 1, 1));
        }
        EchoMarket x = Check.feed(new EchoMarket(), "abc def");
        Check.state("addValley with a space", () -> x.addValley(1, 1, 1));
        Check.due("the bytes behind the length do not count", x.truncate(3) + x.addValley(1, 1, 1), 3);
        Check.due("the name has no byte behind the length", x.valleyByte(0, 3), -1);
    }

    private static void numbersOfAValley() {
        Check.terms(1, "a width from 1 to 60, a number of walls from 1 to 4, a price from 1 to 99 for each echo, "
                + "and fog from 0 to 9 (initially 0)");
        Supplier<EchoMarket> named = () -> Check.feed(valleys(2), "name");
        Bounds.arguments("addValley: width", named, 1, 60, (x, n) -> x.addValley(n, 1, 1));
        Bounds.arguments("addValley: walls", named, 1, 4, (x, n) -> x.addValley(1, n, 1));
        Bounds.arguments("addValley: price", named, 1, 99, (x, n) -> x.addValley(1, 1, n));
        Check.promise(58, "Throws `IllegalArgumentException` if price is out of range");
        Bounds.arguments("setPrice: price", () -> valleys(2), 1, 99, (x, n) -> x.setPrice(1, n));
        Check.promise(57, "Throws `IllegalArgumentException` if fog is out of range");
        Bounds.arguments("setFog: fog", () -> valleys(2), 0, 9, (x, n) -> x.setFog(1, n));
        Check.terms(1, "a width from 1 to 60, a number of walls from 1 to 4, a price from 1 to 99");
        EchoMarket x = Check.feed(new EchoMarket(), "least");
        x.addValley(1, 1, 1);
        Check.feed(x, "most").addValley(60, 4, 99);
        int[] got = {x.width(0), x.walls(0), x.price(0), x.width(1), x.walls(1), x.price(1)};
        int[] due = {1, 1, 1, 60, 4, 99};
        for (int i = 0; i < due.length; i++) {
            Check.due("number " + i, got[i], due[i]);
        }
    }

    private static void firstFog() {
        Check.terms(1, "fog from 0 to 9 (initially 0)");
        EchoMarket x = valleys(2);
        Check.due("the fog of a new valley", x.setFog(1, 9), 0);
        x.undo();
        x.undo();
        Check.feed(x, "again").addValley(1, 1, 1);
        Check.due("the fog of a valley in the place of another", x.setFog(1, 0), 0);
        Check.due("the fog of a described valley", Check.described("market;valley v 1 1 1;").setFog(0, 1), 0);
    }

    private static void secondsOfReturns() {
        Check.terms(1, "A shout returns from wall w, counted from 1, after width * w seconds.");
        for (int width : new int[] {1, 2, 59, 60}) {
            EchoMarket x = Check.described("market;valley v " + width + " 4 1;customer c 240 9;pass 7;shout c v 20 4;");
            for (int wall = 1; wall <= 4; wall++) {
                Check.due("nextReturn", x.nextReturn(0), 7 + width * wall);
                if (width > 1) {
                    Check.due("one second too early", x.pass(width - 1), 0);
                    Check.due("returns", x.returns(0), wall - 1);
                }
                Check.due("in its second", x.pass(1), 1);
                Check.due("returns", x.returns(0), wall);
            }
            Check.due("not once more", x.pass(width), 0);
        }
    }

    private static void loudness() {
        Check.terms(1, "Its echo from wall w has a loudness of (loudness of the shout) - 2 * w - fog");
        for (int fog = 0; fog <= 9; fog++) {
            for (int loudness = 1; loudness <= 20; loudness++) {
                EchoMarket x = Check.described("market;valley v 1 4 1;customer c 9 9;");
                x.setFog(0, fog);
                x.shout(0, 0, loudness, 4);
                for (int wall = 1; wall <= 4; wall++) {
                    int heard = x.earned();
                    x.pass(1);
                    boolean isHeard = loudness - 2 * wall - fog >= 1;
                    Check.due("loudness " + loudness + ", wall " + wall + ", fog " + fog, x.earned() - heard,
                            isHeard ? 1 : 0);
                }
            }
        }
    }

    private static void fogOfTheSecond() {
        Check.terms(1, "where the fog of the second in which it returns counts");
        EchoMarket x = Check.described("market;valley v 5 2 1;customer c 99 9;fog v 9;shout c v 5 2;");
        x.pass(4);
        x.setFog(0, 2);
        x.pass(1);
        Check.due("less fog just before", x.earned(), 1);
        x.pass(4);
        x.setFog(0, 9);
        x.pass(1);
        Check.due("more fog just before", x.earned(), 1);
        Check.due("lost", x.echoesLost(0), 1);
    }

    private static void bytesOfNames() {
        Check.promise(17, "Returns the byte; NONE if the name has no such byte.");
        EchoMarket x = Check.described("market;valley z 1 1 1;valley abcdefgh 1 1 1;");
        for (int i = 0; i < 8; i++) {
            Check.due("a byte of eight", x.valleyByte(1, i), 'a' + i);
            Check.due("a byte of one", x.valleyByte(0, i), i == 0 ? 'z' : -1);
        }
        for (int index : new int[] {8, 9, 256, 1 << 29, Integer.MAX_VALUE, -1, -8, -256, Integer.MIN_VALUE}) {
            Check.due("valleyByte(0, " + index + ")", x.valleyByte(0, index), -1);
            Check.due("valleyByte(1, " + index + ")", x.valleyByte(1, index), -1);
        }
        Check.promise(17, "Throws `IndexOutOfBoundsException` if valley is invalid");
        Bounds.indices("valleyByte", () -> valleys(3), 3, (y, n) -> y.valleyByte(n, 0));
        Bounds.indices("valleyByte of no byte", () -> valleys(3), 3, (y, n) -> y.valleyByte(n, 99));
    }

    private static void findingByTheWholeInput() {
        Check.promise(18, "Finds the valley whose name equals the whole input buffer, which is kept.");
        EchoMarket x = Check.described("market;valley abcdefgh 1 1 1;valley a 1 1 1;");
        String[] texts = {"", "a", "b", "aa", "a ", " a", "a\n", "a\0", "\0a", "A", "abcdefg", "abcdefgh", "abcdefghi",
                "abcdefgha", "abcdefgh ", "zbcdefgh", "a".repeat(600), "\u00e1"};
        int[] due = {-1, 1, -1, -1, -1, -1, -1, -1, -1, -1, -1, 0, -1, -1, -1, -1, -1, -1};
        for (int i = 0; i < texts.length; i++) {
            Check.feed(x, texts[i]);
            Check.due("findValley of " + texts[i], x.findValley(), due[i]);
            Check.due("it is kept", x.findValley(), due[i]);
            int length = texts[i].length();
            Check.argument("it is no longer", () -> x.truncate(length + 1));
            Check.due("its length", x.truncate(length), length);
            x.truncate(0);
        }
        Bounds.asksOnly("findValley", () -> Check.feed(valleys(2), "vb"), y -> y.findValley());
        Check.promise(18, "Returns the number of the valley; NONE if there is none.");
        Check.due("findValley without valleys", Check.feed(new EchoMarket(), "a").findValley(), -1);
        Check.due("findValley without valleys and input", new EchoMarket().findValley(), -1);
        EchoMarket y = Check.feed(valleys(2), "vb");
        y.undo();
        Check.due("findValley of a valley that was undone", y.findValley(), -1);
    }

    private static void askingForAValley() {
        Check.promise(19, "Throws `IndexOutOfBoundsException` if valley is invalid");
        Bounds.indices("width", () -> valleys(3), 3, (x, n) -> x.width(n));
        Check.promise(20, "Throws `IndexOutOfBoundsException` if valley is invalid");
        Bounds.indices("walls", () -> valleys(3), 3, (x, n) -> x.walls(n));
        Check.promise(21, "Throws `IndexOutOfBoundsException` if valley is invalid");
        Bounds.indices("price", () -> valleys(3), 3, (x, n) -> x.price(n));
        Check.promise(22, "Throws `IndexOutOfBoundsException` if valley is invalid");
        Bounds.indices("rating", () -> valleys(3), 3, (x, n) -> x.rating(n));
        Check.promise(23, "Throws `IndexOutOfBoundsException` if valley is invalid");
        Bounds.indices("echoesLost", () -> valleys(3), 3, (x, n) -> x.echoesLost(n));
        Check.promise(24, "Throws `IndexOutOfBoundsException` if valley is invalid");
        Bounds.indices("earnedIn", () -> valleys(3), 3, (x, n) -> x.earnedIn(n));
    }

    private static void rating() {
        Check.promise(22, "Returns the rating of a valley.");
        EchoMarket x = valleys(8);
        for (int i = 0; i < 8; i++) {
            Check.due("the first rating", x.rating(i), 10);
        }
    }

    private static void lostEchoes() {
        Check.promise(23, "Returns the number of lost echoes of all shouts in this valley, faked ones included.");
        EchoMarket x = Check.described("market;valley v 1 4 1;valley w 1 4 1;customer c 99 99;customer d 99 99;");
        Check.due("before a shout", x.echoesLost(0), 0);
        Check.script(x, "shout c v 1 4;shout d v 20 4;shout c w 2 4;pass 1;");
        Check.due("a lost and a heard echo", x.echoesLost(0), 1);
        x.fake(1);
        Check.due("a lost fake", x.echoesLost(0), 2);
        Check.script(x, "well 1;fake 1;");
        Check.due("a heard fake", x.echoesLost(0), 2);
        x.cancel(0);
        Check.due("cancelled echoes", x.echoesLost(0), 2);
        Check.due("the other valley", x.echoesLost(1), 1);
    }

    private static void earnings() {
        Check.promise(24, "Returns the sum of the prices of the heard echoes of all shouts in this valley.");
        EchoMarket x = Check.described("market;valley v 1 4 99;valley w 1 1 7;customer c 99 999;customer d 99 999;");
        Check.due("before a shout", x.earnedIn(0), 0);
        Check.script(x, "shout c v 20 4;shout c w 20 1;price v 1;shout d v 20 2;price v 50;pass 2;");
        Check.due("at the prices of the sales", x.earnedIn(0), 200);
        Check.script(x, "well 1;fake 0;well 0;fake 0;");
        Check.due("a heard fake and a lost one", x.earnedIn(0), 299);
        Check.due("the other valley", x.earnedIn(1), 7);
    }

    private static void bestValley() {
        Check.promise(25, "Returns the valley with the greatest rating, of several the one with the smallest price of "
                + "an echo, and of these the one with the smallest number; NONE if there is no valley.");
        Check.due("no valley", new EchoMarket().bestValley(), -1);
        Check.due("one valley", valleys(1).bestValley(), 0);
        Check.due("eight equal valleys", valleys(8).bestValley(), 0);
        EchoMarket x = valleys(8);
        for (int i = 0; i < 8; i++) {
            x.setPrice(i, i == 7 ? 98 : 99);
        }
        Check.due("the smallest price is the last one's", x.bestValley(), 7);
        x = Check.described("market;valley a 1 4 1;valley b 1 4 99;valley d 1 4 99;customer c 99 999;shout c d 3 1;");
        x.pass(1);
        Check.due("a rating greater by 1", x.bestValley(), 2);
        Check.script(x, "shout c b 20 1;pass 1;");
        Check.due("the smallest number of equal ones", x.bestValley(), 1);
        x.setPrice(2, 98);
        Check.due("a price smaller by 1", x.bestValley(), 2);
        Check.script(x, "shout c b 1 4;shout c d 1 4;shout c a 1 4;pass 4;shout c a 1 1;pass 1;");
        Check.due("ratings of 3, 3 and 0", x.rating(0) * 100 + x.rating(1) * 10 + x.rating(2), 33);
        Check.due("a rating of 0 is not the best", x.bestValley(), 2);
    }

    private static void ranks() {
        Check.promise(26, "Returns the number of the valley; NONE if there is no such rank.");
        for (int count = 0; count <= 8; count++) {
            EchoMarket x = new EchoMarket();
            for (int i = 0; i < count; i++) {
                Check.feed(x, nameOf(7 - i)).addValley(1, 1, 1);
            }
            for (int rank = 0; rank < count; rank++) {
                Check.due("valleyByName(" + rank + ") of " + count, x.valleyByName(rank), count - 1 - rank);
            }
            for (int rank : new int[] {-1, count, count + 1, 256, -256, 1 << 16, Integer.MIN_VALUE,
                    Integer.MAX_VALUE}) {
                Check.due("valleyByName(" + rank + ") of " + count, x.valleyByName(rank), -1);
            }
        }
        Check.promise(26, "0 for the name that comes first in alphabetical order, any int");
        EchoMarket x = new EchoMarket();
        String[] sorted = {"a", "aa", "aaaaaaaa", "aaaaaaab", "ab", "b", "z", "zzzzzzzz"};
        int[] places = {5, 0, 7, 2, 6, 1, 4, 3};
        for (int place : places) {
            Check.feed(x, sorted[place]).addValley(1, 1, 1);
        }
        for (int i = 0; i < 8; i++) {
            Check.due("rank of " + sorted[places[i]], x.valleyByName(places[i]), i);
        }
    }

    private static void neededLoudness() {
        Check.promise(44, "Returns the smallest loudness with which all echoes of an order would be heard in a valley "
                + "if the fog stayed.");
        EchoMarket x = Check.described("market;valley v 1 4 1;valley w 1 1 1;valley u 1 3 1;");
        Check.due("the smallest of all", x.neededLoudness(0, 1), 3);
        for (int fog = 0; fog <= 9; fog++) {
            x.setFog(0, fog);
            for (int order = 1; order <= 4; order++) {
                Check.due("order " + order + ", fog " + fog, x.neededLoudness(0, order), 2 * order + fog + 1);
            }
        }
        Check.promise(44, "Returns the loudness, which may exceed 20; NONE if the order exceeds the number of walls.");
        Check.due("the greatest of all", x.neededLoudness(0, 4), 18);
        Check.due("order 1 of 1 wall", x.neededLoudness(1, 1), 3);
        Check.due("order 2 of 1 wall", x.neededLoudness(1, 2), -1);
        Check.due("order 3 of 3 walls", x.neededLoudness(2, 3), 7);
        Check.due("order 4 of 3 walls", x.neededLoudness(2, 4), -1);
        Check.promise(44, "Throws `IndexOutOfBoundsException` if valley is invalid");
        Bounds.indices("neededLoudness", () -> valleys(2), 2, (y, n) -> y.neededLoudness(n, 1));
        Check.promise(44, "Throws `IllegalArgumentException` if order is out of range");
        Bounds.arguments("neededLoudness: order", () -> valleys(2), 1, 4, (y, n) -> y.neededLoudness(1, n));
    }

    private static void previousFogAndPrice() {
        Check.promise(57, "Returns the previous fog.");
        EchoMarket x = valleys(2);
        Check.due("setFog", x.setFog(0, 9) * 100 + x.setFog(0, 9) * 10 + x.setFog(0, 0), 99);
        Check.promise(57, "Throws `IndexOutOfBoundsException` if valley is invalid");
        Bounds.indices("setFog", () -> valleys(2), 2, (y, n) -> y.setFog(n, 1));
        Check.promise(58, "Returns the previous price.");
        Check.due("setPrice", x.setPrice(0, 99) * 10000 + x.setPrice(0, 99) * 100 + x.setPrice(0, 1), 19999);
        Check.promise(58, "Throws `IndexOutOfBoundsException` if valley is invalid");
        Bounds.indices("setPrice", () -> valleys(2), 2, (y, n) -> y.setPrice(n, 1));
        Check.promise(58, "Sets the price of an echo in a valley for later shouts.");
        EchoMarket z = Check.described("market;valley v 1 1 99;customer c 9 99;shout c v 20 1;price v 1;");
        z.pass(1);
        Check.due("an earlier shout", z.earned(), 99);
    }

    private static void addingValleys() {
        Check.promise(52, "The name is the whole input buffer, which is then emptied.");
        EchoMarket x = Check.feed(new EchoMarket(), "abc");
        x.addValley(1, 1, 1);
        Check.argument("the input is empty", () -> x.truncate(1));
        Check.promise(52, "Throws `IllegalArgumentException` if width, walls or price is out of range");
        Bounds.argument("addValley with a wrong width and no name", () -> valleys(8), y -> y.addValley(0, 1, 1));
        Bounds.argument("addValley with wrong walls and no name", () -> valleys(8), y -> y.addValley(1, 5, 1));
        Bounds.argument("addValley with a wrong price and no name", () -> valleys(8), y -> y.addValley(1, 1, 100));
    }

    private static void meanRating() {
        Check.promise(50, "Returns the sum of the ratings as a double divided by the number of valleys as a double; "
                + "0.0 if there is no valley.");
        Check.due("no valley", new EchoMarket().meanRating(), 0.0);
        Check.due("eight valleys", valleys(8).meanRating(), 10.0);
        EchoMarket x = Check.described("market;valley a 1 1 1;valley b 1 1 1;valley d 1 1 1;customer c 99 99;");
        Check.script(x, "repeat 6 (shout c a 1 1;pass 1;);");
        Check.due("a rating of 0 counts", x.meanRating(), 20.0 / 3.0);
        Check.script(x, "repeat 6 (shout c b 1 1;pass 1;);repeat 6 (shout c d 1 1;pass 1;);");
        Check.due("all ratings are 0", x.meanRating(), 0.0);
    }
}
