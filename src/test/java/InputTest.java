/** Promises 2, 3, 6 and 7: the input buffer and the error of the latest text. */
public final class InputTest {
    public static void main(String[] args) {
        feeding();
        fullBuffer();
        truncating();
        errors();
        Check.end();
    }

    private static void feeding() {
        EchoMarket x = new EchoMarket();
        Check.due("feed", x.feed(0x61626364, 0x65666768, 0x20202020, 0x20202020, 0x20202020), 20);
        x.truncate(8);
        x.addValley(1, 1, 1);
        for (int i = 0; i < 8; i++) {
            Check.due("valleyByte(0, " + i + ")", x.valleyByte(0, i), 'a' + i);
        }
        Check.due("second feed", x.feed(0, 0, 0, 0, 0), 20);
        x.truncate(3);
        Check.due("feed behind 3 bytes", x.feed(0, 0, 0, 0, 0), 23);
        x.truncate(0);
        x.feed(0x20202020, 0x206d6172, 0x6b65743b, 0x77656c6c, 0x20373b20);
        Check.due("all 20 bytes are read in order", x.readText(), 0);
        Check.due("wellDepth", x.wellDepth(), 7);
        x.feed(0x6d61726b, 0x65743bff, 0x80000000, 0, 0);
        Check.argument("readText of byte 255", () -> x.readText());
        Check.due("errorOffset of byte 255", x.errorOffset(), 7);
    }

    private static void fullBuffer() {
        EchoMarket x = new EchoMarket();
        for (int length = 20; length <= 600; length += 20) {
            Check.due("feed", x.feed(0x20202020, 0x20202020, 0x20202020, 0x20202020, 0x20202020), length);
        }
        Check.state("feed into 600 bytes", () -> x.feed(1, 1, 1, 1, 1));
        Check.due("a refused feed changes nothing", x.truncate(600), 600);
        x.truncate(581);
        Check.state("feed into 581 bytes", () -> x.feed(1, 1, 1, 1, 1));
        x.truncate(580);
        Check.due("feed into 580 bytes", x.feed(1, 1, 1, 1, 1), 600);
        Check.due("errorOffset of 580 spaces", Check.read(new EchoMarket(), " ".repeat(580)), "1@580");
        Check.due("a text of 600 bytes", Check.read(new EchoMarket(), "market;" + " ".repeat(593)), "0");
        Check.due("600 tokens", Check.read(new EchoMarket(), ";".repeat(600)), "1@0");
        Check.due("600 digits", Check.read(new EchoMarket(), "market;well " + "9".repeat(588)), "1@12");
        Check.due("600 letters", Check.read(new EchoMarket(), "m".repeat(600)), "1@0");
    }

    private static void truncating() {
        EchoMarket x = Check.feed(new EchoMarket(), "abcdef");
        Check.argument("truncate(-1)", () -> x.truncate(-1));
        Check.argument("truncate(7)", () -> x.truncate(7));
        Check.argument("truncate(least)", () -> x.truncate(Integer.MIN_VALUE));
        Check.argument("truncate(greatest)", () -> x.truncate(Integer.MAX_VALUE));
        Check.due("truncate(6)", x.truncate(6), 6);
        Check.due("truncate(2)", x.truncate(2), 2);
        Check.argument("truncate(3)", () -> x.truncate(3));
        x.addCustomer(1, 1);
        Check.feed(x, "ab");
        Check.due("the first bytes stay", x.findCustomer(), 0);
        Check.due("truncate(0)", x.truncate(0), 0);
        Check.due("an empty buffer has no name", x.findCustomer(), -1);
    }

    private static void errors() {
        EchoMarket x = new EchoMarket();
        Check.due("a description", Check.read(x, "market;well 21;"), "2@12");
        Check.due("input after an error", x.truncate(0), 0);
        Check.argument("the input is empty after an error", () -> x.truncate(1));
        Check.due("code stays", x.errorCode(), 2);
        x.setWell(3);
        Check.due("code stays after a change", x.errorCode(), 2);
        x.undo();
        Check.due("code stays after undo", x.errorCode(), 2);
        Check.due("offset stays after undo", x.errorOffset(), 12);
        Check.due("a valid script", Check.run(x, "well 21;"), "0");
        Check.due("code after a valid text", x.errorCode(), 0);
        Check.due("offset after a valid text", x.errorOffset(), -1);
        Check.due("a wrong script", Check.run(x, "well;"), "1@4");
        x.saveState();
        x.restoreState();
        Check.due("code stays after restoreState", x.errorCode(), 1);
        Check.due("offset stays after restoreState", x.errorOffset(), 4);
        Check.due("a valid description", Check.read(x, "market;"), "0");
        Check.due("code after a valid description", x.errorCode(), 0);
        Check.due("offset after a valid description", x.errorOffset(), -1);
        Check.argument("the input is empty after a valid text", () -> x.truncate(1));
    }
}
