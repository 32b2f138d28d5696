import java.util.function.Supplier;

/** Section 6, the input buffer and readText(): each sentence that names a bound, at it and beyond it. */
public final class BoundsOfDescriptionsTest {
    private static final String PART = "market;valley v 1 2 3;customer c 9 9;";
    private static final String THIRTY = "market;valley v1 1 1;valley w1 1 1;customer c9 99;"
            + "shout c v9 1;shout c w9 1;pass1;".repeat(14) + "shout c v9 1;shout c w9 1;";

    public static void main(String[] args) {
        sixHundredBytes();
        feedingBytes();
        truncating();
        everyByteBeforeAToken();
        everyByteWithinAToken();
        lengthsOfTokens();
        spaces();
        namesAreAnyWords();
        emptyTexts();
        endsTooEarly();
        wrongKindsOfTokens();
        firstWords();
        offsets();
        numbersOutOfRange();
        shoutsWithThatNumber();
        namesTaken();
        namesUnknown();
        ninths();
        refusedSales();
        fakesOfOpenShouts();
        smallestCode();
        whatStatementsDo();
        effectsInOrder();
        replacesEverything();
        errorChangesNothing();
        errorCodes();
        Check.end();
    }

    private static void whole(String text, String want) {
        Check.due("readText of " + text, Check.read(new EchoMarket(), text), want);
    }

    /** A text behind a part that has 37 bytes, a valley v and a customer c; offsets count from its end. */
    private static void behindPart(String text, int code, int offset) {
        whole(PART + text, code + "@" + (PART.length() + offset));
    }

    private static void goodBehindPart(String text, int shouts) {
        whole(PART + text, "" + shouts);
    }

    private static void sixHundredBytes() {
        Check.terms(6, "A text is read from an input buffer of at most 600 bytes.");
        EchoMarket x = new EchoMarket();
        for (int length = 20; length <= 600; length += 20) {
            Check.due("feed", x.feed(0, 0, 0, 0, 0), length);
        }
        Check.promise(2, "Throws `IllegalStateException` if the length would exceed 600");
        for (int length = 576; length <= 600; length++) {
            Supplier<EchoMarket> filled = filled(length);
            if (length <= 580) {
                EchoMarket y = filled.get();
                Check.due("feed behind " + length, y.feed(-1, -1, -1, -1, -1), length + 20);
            } else {
                Bounds.state("feed behind " + length, filled, y -> y.feed(0, 0, 0, 0, 0));
            }
        }
        String text = "market;" + "well 20 ;".repeat(65) + "well1 ; ";
        Check.due("length of the text", text.length(), 600);
        whole(text, "0");
        whole(text.substring(0, 599) + ";", "1@599");
        whole(text.substring(0, 598), "1@598");
    }

    private static Supplier<EchoMarket> filled(int length) {
        return () -> {
            EchoMarket x = new EchoMarket();
            for (int i = 0; i < 30; i++) {
                x.feed(0x6d61726b, 0x65743b20, 0x20202020, 0x20202020, 0x20202020);
            }
            x.truncate(length);
            return x;
        };
    }

    private static void feedingBytes() {
        Check.promise(2, "Appends 20 bytes to the input buffer: the four bytes of each argument, most significant byte "
                + "first.");
        String letters = "abcdefghijklmnopqrst";
        for (int i = 0; i < 20; i++) {
            EchoMarket x = new EchoMarket();
            x.feed(0x61626364, 0x65666768, 0x696a6b6c, 0x6d6e6f70, 0x71727374);
            int[] words = {0x20202020, 0x20202020, 0x20202020, 0x20202020, 0x20202020};
            words[i / 4] = words[i / 4] & ~(255 << 24 - i % 4 * 8) | letters.charAt(i) << 24 - i % 4 * 8;
            x.truncate(0);
            x.feed(words[0], words[1], words[2], words[3], words[4]);
            Check.argument("a text of one letter", () -> x.readText());
            Check.due("byte " + i + " stands at its place", x.errorOffset(), i);
        }
        EchoMarket x = new EchoMarket();
        x.feed(0x61626364, 0x65666768, 0x696a6b6c, 0x6d6e6f70, 0x71727374);
        x.truncate(8);
        x.addValley(1, 1, 1);
        for (int i = 0; i < 8; i++) {
            Check.due("byte " + i, x.valleyByte(0, i), letters.charAt(i));
        }
        for (int first : new int[] {-1, Integer.MIN_VALUE, Integer.MAX_VALUE, 0}) {
            EchoMarket y = new EchoMarket();
            Check.due("feed of " + first, y.feed(first, first, first, first, first), 20);
            Check.argument("no token begins with it", () -> y.readText());
            Check.due("errorOffset", y.errorOffset(), 0);
        }
    }

    private static void truncating() {
        Check.promise(3, "Throws `IllegalArgumentException` if length is out of range");
        for (int length : new int[] {0, 1, 19, 20, 21, 300, 599, 600}) {
            Bounds.arguments("truncate with " + length + " bytes", filled(length), 0, length, (x, n) -> x.truncate(n));
        }
        Check.promise(3, "Returns the new length.");
        EchoMarket x = filled(600).get();
        Check.due("truncate(600)", x.truncate(600), 600);
        Check.due("truncate(7)", x.truncate(7), 7);
        Check.due("the first bytes are left", x.readText(), 0);
        Check.due("an empty buffer", x.truncate(0), 0);
    }

    private static void everyByteBeforeAToken() {
        Check.terms(6, "Spaces (byte 32) and line feeds (byte 10) may stand before, between and after tokens.");
        for (int sign = 0; sign < 256; sign++) {
            boolean isSpace = sign == 32 || sign == 10;
            String one = "" + (char) sign;
            whole("market;" + one + "well 1;", isSpace ? "0" : "1@7");
            whole("market;well 1;" + one, isSpace ? "0" : "1@14");
            whole(one + "market;", isSpace ? "0" : "1@0");
        }
    }

    private static void everyByteWithinAToken() {
        Check.terms(6, "Tokens are words (maximal runs of the letters a to z, at most 8 letters), numbers (maximal runs "
                + "of digits, at most 4 digits) and the single characters ; ( and ).");
        for (int sign = 0; sign < 256; sign++) {
            String one = "" + (char) sign;
            boolean isSpace = sign == 32 || sign == 10;
            boolean isLetter = sign >= 'a' && sign <= 'z';
            boolean isDigit = sign >= '0' && sign <= '9';
            whole("market;well" + one + "1;", isSpace ? "0" : isLetter ? "1@7" : !isDigit ? "1@11"
                    : sign <= '1' ? "0" : "2@11");
            whole("market;pass 1" + one + "1;", isDigit ? "0" : isSpace || sign == ';' ? "1@14" : "1@13");
            whole("market;valley a" + one + "a 1 1 1;", isLetter ? "0" : sign == '0' ? "2@15"
                    : isDigit || isSpace ? "1@16" : "1@15");
        }
    }

    private static void lengthsOfTokens() {
        Check.terms(6, "at most 8 letters");
        whole("market;valley abcdefgh 1 1 1;", "0");
        whole("market;valley abcdefghi 1 1 1;", "1@14");
        whole("market;customer abcdefgh 1 1;", "0");
        whole("market;customer abcdefghi 1 1;", "1@16");
        whole(PART + "valley abcdefgh1 1 1;fog abcdefgh 9;", "0");
        whole("market;fog abcdefgh 9;", "4@11");
        whole("market;fog abcdefghi 9;", "1@11");
        whole("m".repeat(600), "1@0");
        whole("market;valley " + "a".repeat(264) + " 1 1 1;", "1@14");
        Check.terms(6, "at most 4 digits");
        whole("market;well 0001;", "0");
        whole("market;well 00001;", "1@12");
        whole("market;customer c 1 9999;", "0");
        whole("market;customer c 1 10000;", "1@20");
        whole("market;customer c 1 99999;", "1@20");
        whole("market;customer c 0240 0000;", "0");
        whole("market;customer c 0241 0000;", "2@18");
        whole("market;well 9999;", "2@12");
        for (String wrapping : new String[] {"4294967296", "4294967297", "18446744073709551617", "65537", "00257"}) {
            whole("market;well " + wrapping + ";", "1@12");
        }
        whole("market;well " + "0".repeat(587) + "1", "1@12");
        int semicolon = ';';
        whole("market 000" + semicolon, "1@7");
        whole("market;well 1 000" + semicolon, "1@14");
        behindPart("shout c v 9 1 000" + semicolon, 1, 14);
    }

    private static void spaces() {
        Check.terms(6, "Adjacent words and numbers need no space between them.");
        whole("market;valley v1 2 3;customer c9 9;shout c v9 1;fog v9;price v1;well1;fake0;pass1;", "1");
        whole("market;customer1 9 9;", "1@15");
        whole("market;valleyv1 1 1;", "0".equals("") ? "" : "1@7");
        whole("market;valley v 11 1;", "1@20");
        Check.terms(6, "Spaces (byte 32) and line feeds (byte 10) may stand before, between and after tokens.");
        whole(" \n  market\n\n;  \nvalley  \n v\n1\n2\n3\n;\n \n", "0");
        whole(" ".repeat(590) + "market ;\n\n", "0");
        whole("mar ket;", "1@0");
        whole("market;well 1 9;", "1@14");
    }

    private static void namesAreAnyWords() {
        Check.terms(6, "Valleys and customers are given by their names, which are any words; N is a number.");
        String[] words = {"market", "valley", "customer", "shout", "fog", "price", "well", "pass", "fake", "cancel",
                "repeat", "a", "zzzzzzzz"};
        for (String word : words) {
            whole("market;valley " + word + " 1 1 1;customer " + word + " 9 9;fog " + word + " 1;price " + word
                    + " 2;shout " + word + " " + word + " 20 1;", "1");
        }
        for (String sign : new String[] {"1", ";", "(", ")", "A", "_"}) {
            whole("market;valley " + sign + " 1 1 1;", "1@14");
            whole("market;customer " + sign + " 1 1;", "1@16");
            behindPart("fog " + sign + " 1;", 1, 4);
            behindPart("shout " + sign + " v 1 1;", 1, 6);
            behindPart("shout c " + sign + " 1 1;", 1, 8);
        }
    }

    private static void emptyTexts() {
        Check.terms(6, "or the length of the text if it ends too early");
        whole("", "1@0");
        whole(" ", "1@1");
        whole("\n".repeat(600), "1@600");
        whole("market", "1@6");
        whole("market \n ", "1@9");
        Check.terms(6, "market = \"market\" \";\" { statement \";\" }");
        whole("market;", "0");
        whole("market;   ", "0");
        whole("market" + " ".repeat(594), "1@600");
    }

    /** Every beginning of a text that ends behind a token other than the semicolon of a statement. */
    private static void endsTooEarly() {
        Check.terms(6, "or the length of the text if it ends too early");
        String[] tokens = ("market ; valley w 1 1 1 ; customer d 9 9 ; shout d w 20 1 ; fog w 1 ; price w 1 ; well 1 ; "
                + "fake 0 ; pass 1 ; shout d w 1 1 ;").split(" ");
        StringBuilder text = new StringBuilder();
        int shouts = 0;
        for (String token : tokens) {
            text.append(token);
            shouts += token.equals("shout") ? 1 : 0;
            if (token.equals(";")) {
                whole(text.toString(), "" + shouts);
            } else {
                whole(text.toString(), "1@" + text.length());
                whole(text + " \n", "1@" + (text.length() + 2));
            }
            text.append(' ');
        }
    }

    /** Each token of each statement replaced by tokens of other kinds. */
    private static void wrongKindsOfTokens() {
        Check.terms(6, "1: the token is not allowed here, a byte belongs to no token, a word or number is too long, or "
                + "the text ends too early.");
        String[] statements = {"valley w 1 1 1 ;", "customer d 1 1 ;", "shout c v 1 1 ;", "fog v 1 ;", "price v 1 ;",
                "well 1 ;", "pass 1 ;"};
        String[] signs = {";", "(", ")", "#", "\0", "\u00ff", "abcdefghi", "12345"};
        for (String statement : statements) {
            String[] tokens = statement.split(" ");
            int offset = 0;
            for (int i = 0; i < tokens.length; i++) {
                String before = statement.substring(0, offset);
                String behind = statement.substring(offset + tokens[i].length());
                boolean isName = tokens[i].length() == 1 && Character.isLetter(tokens[i].charAt(0));
                boolean isNumber = tokens[i].equals("1");
                for (String sign : signs) {
                    if (!sign.equals(tokens[i])) {
                        behindPart(before + sign + behind, 1, offset);
                    }
                }
                if (!isName) {
                    behindPart(before + "v" + behind, 1, offset);
                }
                if (!isNumber) {
                    behindPart(before + "1" + behind, 1, offset);
                }
                offset += tokens[i].length() + 1;
            }
        }
        behindPart("shout c v 1 1;fake v;", 1, 19);
        behindPart("shout c v 1 1;fake ;", 1, 19);
        behindPart("shout c v 1 1;fake 0)", 1, 20);
    }

    private static void firstWords() {
        Check.terms(6, "1: the token is not allowed here");
        for (String word : new String[] {"market", "cancel", "repeat", "a", "valle", "valleys", "xalley", "custome",
                "customex", "shou", "shouts", "fo", "fogg", "pric", "prices", "wel", "wells", "pas", "passe", "fak",
                "faked", "nop"}) {
            behindPart(word + " v 1;", 1, 0);
        }
        for (String word : new String[] {"markets", "marke", "valley", "m", "xarket", "markeu"}) {
            whole(word + ";", "1@0");
        }
    }

    private static void offsets() {
        Check.terms(6, "Parsing stops at the first erroneous token.");
        behindPart("well 21;well;", 2, 5);
        behindPart("well;well 21;", 1, 4);
        behindPart("fog w 10;#", 4, 4);
        behindPart("well 20;# well 21;", 1, 8);
        Check.terms(6, "The error offset is the index of the first byte of that token");
        whole("x", "1@0");
        behindPart("  \n well 0021;", 2, 9);
        whole("market;" + " ".repeat(592) + "x", "1@599");
        whole("market;" + " ".repeat(586) + "well 21", "2@598");
    }

    private static void numbersOutOfRange() {
        Check.terms(6, "2: a number is out of range, or there is no shout with that number.");
        range("valley w ", 1, 60, " 1 1;");
        range("valley w 1 ", 1, 4, " 1;");
        range("valley w 1 1 ", 1, 99, ";");
        range("customer d ", 1, 240, " 1;");
        range("shout c v ", 1, 20, " 1;");
        range("fog v ", 0, 9, ";");
        range("price v ", 1, 99, ";");
        range("well ", 0, 20, ";");
        range("pass ", 1, 240, ";");
        goodBehindPart("customer d 1 0;customer e 1 9999;", 0);
        behindPart("shout c v 1 0;", 2, 12);
        goodBehindPart("shout c v 1 1;", 1);
        goodBehindPart("valley w 1 4 1;shout c w 1 4;", 1);
        behindPart("valley w 1 4 1;shout c w 1 5;", 2, 27);
        EchoMarket x = Check.described(PART + "valley w 60 4 99;customer d 240 9999;");
        Check.due("the greatest width", x.width(1), 60);
        Check.due("the greatest walls", x.walls(1), 4);
        Check.due("the greatest price", x.price(1), 99);
        Check.due("the greatest patience", x.patience(1), 240);
        Check.due("the greatest money", x.money(1), 9999);
    }

    private static void range(String before, int least, int most, String behind) {
        for (int number : new int[] {0, 1, least, most, most + 1, most + 2, 256 + least, 9999}) {
            boolean isWithin = number >= least && number <= most;
            boolean isShout = before.startsWith("shout");
            if (isWithin) {
                goodBehindPart(before + number + behind, isShout ? 1 : 0);
            } else {
                behindPart(before + number + behind, 2, before.length());
            }
        }
    }

    private static void shoutsWithThatNumber() {
        Check.terms(6, "or there is no shout with that number");
        for (int number : new int[] {0, 1, 29, 30, 9999}) {
            behindPart("fake " + number + ";", 2, 5);
        }
        goodBehindPart("shout c v 1 1;fake 0;", 1);
        behindPart("shout c v 1 1;fake 1;", 2, 19);
        behindPart("shout c v 1 1;fake 256;", 2, 19);
        whole(THIRTY, "30");
        whole(THIRTY + "fake29;", "30");
        whole(THIRTY + "fake30;", "2@" + (THIRTY.length() + 4));
    }

    private static void namesTaken() {
        Check.terms(6, "3: a new valley or customer has the name of an existing valley or customer, respectively.");
        behindPart("valley v 1 1 1;", 3, 7);
        behindPart("customer c 1 1;", 3, 9);
        goodBehindPart("valley c 1 1 1;customer v 1 1;", 0);
        behindPart("valley w 1 1 1;valley w 1 1 1;", 3, 22);
        goodBehindPart("valley vv 1 1 1;customer cc 1 1;", 0);
        whole("market;valley abcdefgh 1 1 1;valley abcdefgi 1 1 1;", "0");
        whole("market;valley abcdefgh 1 1 1;valley abcdefgh 1 1 1;", "3@36");
        EchoMarket x = Check.described(PART);
        Check.due("names of the market that is replaced are free", Check.read(x, PART), "0");
    }

    private static void namesUnknown() {
        Check.terms(6, "4: a name that must denote an existing valley or customer does not.");
        behindPart("fog c 1;", 4, 4);
        behindPart("fog vv 1;", 4, 4);
        behindPart("price c 1;", 4, 6);
        behindPart("shout v v 1 1;", 4, 6);
        behindPart("shout c c 1 1;", 4, 8);
        behindPart("shout cc v 1 1;", 4, 6);
        whole("market;fog v 1;", "4@11");
        EchoMarket x = Check.described(PART);
        Check.due("names of the market that is replaced are unknown", Check.read(x, "market;fog v 1;"), "4@11");
    }

    private static void ninths() {
        Check.terms(6, "5: the word \"valley\" of a ninth valley, or the word \"customer\" of a ninth customer.");
        StringBuilder valleys = new StringBuilder("market;");
        StringBuilder customers = new StringBuilder("market;");
        for (char letter = 'a'; letter < 'h'; letter++) {
            valleys.append("valley ").append(letter).append(" 1 1 1;");
            customers.append("customer ").append(letter).append(" 1 1;");
        }
        whole(valleys + "valley h 1 1 1;", "0");
        whole(customers + "customer h 1 1;", "0");
        valleys.append("valley h 1 1 1;");
        customers.append("customer h 1 1;");
        whole(valleys + "valley i 1 1 1;", "5@" + valleys.length());
        whole(valleys + "valley a 1 1 1;", "5@" + valleys.length());
        whole(valleys + " valley", "5@" + (valleys.length() + 1));
        whole(valleys + "customer a 1 1;", "0");
        whole(customers + "customer i 1 1;", "5@" + customers.length());
        whole(customers + "customer", "5@" + customers.length());
        whole(customers + "valley a 1 1 1;", "0");
        whole(valleys + "valleyi 1 1 1;", "1@" + valleys.length());
        EchoMarket x = Check.described(valleys.toString());
        Check.due("the valleys of the market that is replaced do not count", Check.read(x, valleys.toString()), "0");
    }

    private static void refusedSales() {
        Check.terms(6, "6: the semicolon after \"shout\" if the sale is refused");
        whole(THIRTY + "shout c v9 1;", "6@" + (THIRTY.length() + 12));
        whole(THIRTY + "pass1;shout c v9 1 ;", "6@" + (THIRTY.length() + 19));
        whole(THIRTY.substring(0, THIRTY.length() - 13) + "shout c w9 1;", "30");
        goodBehindPart("shout c v 1 2;", 1);
        behindPart("shout c v 1 3;", 6, 13);
        goodBehindPart("customer d 9 3;shout d v 1 1;", 1);
        behindPart("customer d 9 2;shout d v 1 1;", 6, 28);
        goodBehindPart("price v 9;shout c v 1 1;", 1);
        behindPart("price v 10;shout c v 1 1;", 6, 24);
        behindPart("shout c v 1 1;shout c v 1 1;", 6, 27);
        goodBehindPart("shout c v 1 1;pass 1;shout c v 1 1;", 2);
        String twoFakes = "price v 1;well 1;shout c v 1 2;fake 0;fake 0;shout c v 1 1;";
        goodBehindPart(twoFakes + "pass 1;shout c v 1 1;", 3);
        behindPart(twoFakes + "fake 1;shout c v 1 1;", 6, twoFakes.length() + 20);
        behindPart("shout c v 1 3 \n ;", 6, 16);
        behindPart("shout c v 1 3", 1, 13);
        behindPart("shout c v 1 3 1;", 1, 14);
    }

    private static void fakesOfOpenShouts() {
        Check.terms(6, "the number of \"fake\" if the shout is not open");
        goodBehindPart("shout c v 1 2;fake 0;fake 0;", 1);
        behindPart("shout c v 1 2;fake 0;fake 0;fake 0;", 6, 33);
        goodBehindPart("shout c v 1 2;pass 1;fake 0;", 1);
        behindPart("shout c v 1 2;pass 2;fake 0;", 6, 26);
        behindPart("valley w 9 1 1;customer d 1 9;shout d w 1 1;pass 1;fake 0;", 6, 56);
    }

    private static void smallestCode() {
        Check.terms(6, "If several error codes apply to the same token, the smallest is reported");
        behindPart("shout c v 1 3)", 1, 13);
        behindPart("fake 12345;", 1, 5);
        behindPart("fog abcdefghi 1;", 1, 4);
        String late = "market;" + "pass240;".repeat(41) + "pass159;";
        whole(late + "pass 241;", "2@" + (late.length() + 5));
        whole(late + "pass 0;", "2@" + (late.length() + 5));
        whole(late + "pass 1;", "6@" + (late.length() + 5));
        whole(late + "pass 10000;", "1@" + (late.length() + 5));
        Check.terms(6, "Parsing stops at the first erroneous token.");
        behindPart("valley v 61 1 1;", 3, 7);
        behindPart("fog w 10;", 4, 4);
        behindPart("shout d w 21 5;", 4, 6);
        behindPart("shout c v 21 5;", 2, 10);
        behindPart("shout c v 20 5)", 2, 13);
    }

    private static void whatStatementsDo() {
        Check.terms(6, "\"valley\" adds a valley with a width, a number of walls and a price. \"customer\" adds a "
                + "customer with a patience and money. \"shout\" sells a shout with a loudness and an order.");
        EchoMarket x = Check.described("market;valley a 2 3 4;valley b 5 1 7;customer a 8 90;customer c 9 10;"
                + "shout c b 5 1;shout a a 6 3;");
        Check.due("the first valley", x.width(0) * 100 + x.walls(0) * 10 + x.price(0), 234);
        Check.due("the second valley", x.width(1) * 100 + x.walls(1) * 10 + x.price(1), 517);
        Check.due("the first customer", x.patience(0) * 100 + x.money(0), 878);
        Check.due("the second customer", x.patience(1) * 100 + x.money(1), 903);
        Check.due("the shouts", x.shoutCustomer(0) * 1000 + x.shoutValley(0) * 100 + x.shoutCustomer(1) * 10
                + x.shoutValley(1), 1100);
        Check.due("the order of the second shout", x.heldFor(0), 12);
        x.pass(6);
        Check.due("the loudness of the first shout", x.receipt(0), 7);
        Check.due("the loudness of the second shout", x.receipt(1), 8);
        Check.terms(6, "\"fog\" and \"price\" set the fog and the price of a valley, \"well\" sets the depth of the "
                + "well");
        x = Check.described("market;valley a 2 3 4;valley b 5 1 7;fog b 8;price a 9;well 3;");
        Check.due("fog", x.neededLoudness(0, 1) * 100 + x.neededLoudness(1, 1), 311);
        Check.due("price", x.price(0) * 10 + x.price(1), 97);
        Check.due("well", x.wellDepth(), 3);
        Check.terms(6, "and \"fake\" fakes the next echo of the shout with that number");
        x = Check.described("market;valley a 2 3 4;customer c 9 90;customer d 9 90;shout c a 1 1;shout d a 1 1;"
                + "fake 1;");
        Check.due("returns", x.returns(0) * 10 + x.returns(1), 1);
    }

    private static void effectsInOrder() {
        Check.terms(6, "Statements take effect in the order in which they are read.");
        EchoMarket x = Check.described(PART + "shout c v 3 1;price v 9;fog v 1;pass 1;fog v 0;well 2;well 1;");
        Check.due("the price of the sale", x.money(0), 9);
        Check.due("the fog of the second of the return", x.echoesLost(0), 1);
        Check.due("the later price", x.price(0), 9);
        Check.due("the later well", x.wellDepth(), 1);
        Check.terms(6, "\"pass\" lets 1 to 240 seconds pass");
        Check.due("one second", Check.described("market;pass 1;").time(), 1);
        Check.due("240 seconds", Check.described("market;pass 240;").time(), 240);
    }

    /** Every sum is other than 0, so that what a description leaves of them would be seen. */
    private static EchoMarket busy() {
        EchoMarket x = Check.described("market;valley a 1 4 5;valley b 60 4 9;customer c 40 90;customer d 99 90;"
                + "fog a 1;shout c a 5 4;shout d b 9 1;well 9;pass 2;fake 0;shout d a 9 4;pass 1;");
        Check.read(x, "market;well 21;");
        x.saveState();
        x.printReceipt(0);
        x.fake(2);
        x.setFog(1, 9);
        x.setPrice(0, 7);
        return x;
    }

    private static EchoMarket busyWith(String text) {
        return Check.feed(busy(), text);
    }

    private static void replacesEverything() {
        Check.promise(4, "Parses the input buffer as a description, which replaces everything except the output and the "
                + "saved state. The input buffer is emptied, also on an error. Afterwards nothing can be undone.");
        for (String text : new String[] {"market;", PART, PART + "shout c v 9 2;well 5;pass 1;fog v 3;"}) {
            Supplier<EchoMarket> replaced = () -> {
                EchoMarket x = busyWith(text);
                x.readText();
                return x;
            };
            Check.due("the market", Portrait.ofMarket(replaced), Portrait.ofMarket(() -> Check.described(text)));
            EchoMarket x = replaced.get();
            Check.due("the output", x.outputByte(0), 'c');
            Check.due("the input", Portrait.inputLength(replaced), 0);
            Check.state("undo", () -> x.undo());
            Check.due("the saved state", x.restoreState(), 3);
            Check.due("its market", x.earned() * 100 + x.refunded() * 10 + x.valleyCount(), 1552);
        }
        Supplier<EchoMarket> grown = () -> {
            EchoMarket x = busyWith("market;");
            x.readText();
            return grown(x);
        };
        Check.due("what is added behind an empty description", Portrait.ofMarket(grown),
                Portrait.ofMarket(() -> grown(new EchoMarket())));
        Check.promise(4, "Returns the number of shouts that have been sold.");
        Check.due("none", Check.read(busy(), "market;"), "0");
        Check.due("one", Check.read(busy(), PART + "shout c v 9 2;"), "1");
    }

    private static EchoMarket grown(EchoMarket x) {
        Check.feed(x, "v").addValley(9, 4, 3);
        Check.feed(x, "c").addCustomer(99, 99);
        x.shout(0, 0, 20, 4);
        return x;
    }

    private static void errorChangesNothing() {
        Check.promise(4, "Throws `IllegalArgumentException` if the text has an error; then only the input buffer and the "
                + "error change");
        String before = Portrait.withoutTexts(() -> busy());
        for (String text : new String[] {"", "x", "market", "market;valley v 1 1 1;well 21;", "market;fake 0;",
                "market;valley a 1 1 1;valley a 1 1 1;", "market;fog a 1;", PART + "shout c v 9 2;pass 1;shout c v 1 3;"}) {
            Supplier<EchoMarket> failed = () -> {
                EchoMarket x = busyWith(text);
                Check.argument("readText of " + text, () -> x.readText());
                return x;
            };
            Check.due("everything else behind " + text, Portrait.withoutTexts(failed), before);
            Check.due("the input behind " + text, Portrait.inputLength(failed), 0);
            Check.due("there is an error", failed.get().errorCode() > 0, true);
        }
    }

    private static void errorCodes() {
        EchoMarket x = new EchoMarket();
        Check.promise(6, "Returns the code; 0 if that text had no error or there was no such call.");
        Check.due("no such call", x.errorCode(), 0);
        Check.promise(7, "Returns the offset; NONE if that text had no error or there was no such call.");
        Check.due("no such call", x.errorOffset(), -1);
        Check.read(x, "market;well 21;");
        Check.due("an error", x.errorCode() * 100 + x.errorOffset(), 212);
        Check.read(x, "market;");
        Check.due("code of a text without an error", x.errorCode(), 0);
        Check.due("offset of a text without an error", x.errorOffset(), -1);
        Check.run(x, "x");
        Check.due("an error at 0", x.errorCode() * 100 + x.errorOffset(), 100);
        Check.run(x, "");
        Check.due("code of a script without an error", x.errorCode(), 0);
        Check.due("offset of a script without an error", x.errorOffset(), -1);
        Bounds.asksOnly("errorCode and errorOffset", () -> busy(), y -> y.errorCode() + y.errorOffset());
    }
}
