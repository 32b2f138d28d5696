import java.util.function.Supplier;

/** Section 7 and runScript(): each sentence that names a bound, at it and beyond it. */
public final class BoundsOfScriptsTest {
    private static final String[] COMMANDS = {"shout c v 1 1 ;", "fog v 1 ;", "price v 1 ;", "well 1 ;", "pass 1 ;",
            "fake 1 ;", "cancel 1 ;"};

    public static void main(String[] args) {
        emptyScripts();
        sixHundredBytes();
        endsTooEarly();
        endsOfRepeats();
        wrongKindsOfTokens();
        firstWords();
        everyByte();
        lengthsOfTokens();
        repeatNumbers();
        otherNumbers();
        thirdRepeat();
        thirtyFirstCommand();
        countOfNestedCommands();
        smallestCode();
        namesUnknown();
        asOftenAsItsNumber();
        firstException();
        everyException();
        fortyCommands();
        fortyInRepeats();
        oneUndoableCall();
        errorChangesNothing();
        sameAsTheMethods();
        Check.end();
    }

    private static EchoMarket market() {
        return Check.described("market;valley v 10 4 5;valley w 4 2 7;customer c 30 100;customer d 100 99;");
    }

    private static void run(String text, String want) {
        Check.due("runScript of " + text, Check.run(market(), text), want);
    }

    private static void emptyScripts() {
        Check.terms(7, "script  = { command \";\" }");
        Check.due("a new market and an empty input", new EchoMarket().runScript(), 0);
        run("", "0");
        run(" \n", "0");
        run(" ".repeat(600), "0");
        run("repeat 1 ( ) ;", "0");
        run("repeat 20 (repeat 20 ( ););", "0");
        EchoMarket x = market();
        x.runScript();
        Check.due("code", x.errorCode(), 0);
        Check.due("offset", x.errorOffset(), -1);
        Check.due("it is one undoable call", x.undo(), 0);
    }

    private static void sixHundredBytes() {
        Check.terms(6, "A text is read from an input buffer of at most 600 bytes.");
        String text = "fog v 1 ;".repeat(22) + " ".repeat(395) + "well 1;";
        Check.due("length", text.length(), 600);
        run(text, "23");
        run(text.substring(0, 599), "1@599");
        run(text.substring(0, 599) + "#", "1@599");
        run(";".repeat(600), "1@0");
        run("(".repeat(600), "1@0");
    }

    private static void endsTooEarly() {
        Check.terms(6, "or the length of the text if it ends too early");
        StringBuilder text = new StringBuilder();
        int executed = 0;
        for (String token : ("repeat 2 ( shout c v 1 1 ; fog v 1 ; repeat 1 ( price v 1 ; well 1 ; ) ; pass 1 ; ) ; "
                + "fake 0 ; cancel 0 ;").split(" ")) {
            text.append(token);
            boolean isWhole = token.equals(";") && !open(text);
            if (!isWhole) {
                run(text.toString(), "1@" + text.length());
                run(text + " \n", "1@" + (text.length() + 2));
            } else {
                executed++;
                Check.due("runScript of " + text, Check.run(market(), text.toString()).contains("@"), false);
            }
            text.append(' ');
        }
        Check.due("whole texts", executed, 3);
    }

    private static boolean open(StringBuilder text) {
        return text.chars().filter(c -> c == '(').count() > text.chars().filter(c -> c == ')').count();
    }

    private static void endsOfRepeats() {
        Check.terms(7, "\"repeat\" N \"(\" script \")\"");
        run("repeat 1 (well 1;);", "1");
        run("repeat 1 (well 1;));", "1@18");
        run("repeat 1 (well 1;););", "1@19");
        run("well 1;)", "1@7");
        run(")", "1@0");
        run("repeat 1 (well 1);", "1@16");
        run("repeat 1 ();repeat 1 ();", "0");
        run("repeat 1 (repeat 1 (well 1;););", "1");
        run("repeat 1 (repeat 1 (well 1;);", "1@29");
        run("repeat 1 (repeat 1 (well 1;)", "1@28");
        run("repeat 1 (repeat 1 (well 1;)));", "1@28");
        run("repeat 1 well 1;", "1@9");
        run("repeat (well 1;);", "1@7");
        run("repeat 1 ((well 1;););", "1@10");
        run("repeat 1 ();;", "1@12");
    }

    private static void wrongKindsOfTokens() {
        Check.terms(7, "Tokens, error codes 1 and 4, and offsets are as for descriptions.");
        String[] signs = {";", "(", ")", "#", "\0", "\u00ff", "abcdefghi", "12345"};
        for (String command : COMMANDS) {
            String[] tokens = command.split(" ");
            int offset = 0;
            for (int i = 0; i < tokens.length; i++) {
                String before = command.substring(0, offset);
                String behind = command.substring(offset + tokens[i].length());
                for (String sign : signs) {
                    if (!sign.equals(tokens[i])) {
                        run(before + sign + behind, "1@" + offset);
                        run("well 1;" + before + sign + behind, "1@" + (7 + offset));
                    }
                }
                if (i == 0 || tokens[i].equals("1") || tokens[i].equals(";")) {
                    run(before + "v" + behind, "1@" + offset);
                }
                if (!tokens[i].equals("1")) {
                    run(before + "1" + behind, "1@" + offset);
                }
                offset += tokens[i].length() + 1;
            }
        }
    }

    private static void firstWords() {
        Check.terms(7, "command = \"shout\" customer valley N N | ( \"fog\" | \"price\" ) valley N | ( \"well\" | "
                + "\"pass\" | \"fake\" | \"cancel\" ) N");
        for (String word : new String[] {"market", "valley", "customer", "v", "shou", "shouts", "fo", "fogs", "prices",
                "pric", "wel", "wells", "pas", "passe", "fak", "fakes", "cance", "cancels", "repea", "repeats"}) {
            run(word + " 1;", "1@0");
            run("repeat 1 (" + word + " 1;);", "1@10");
        }
    }

    private static void everyByte() {
        Check.terms(7, "Tokens, error codes 1 and 4, and offsets are as for descriptions.");
        for (int sign = 0; sign < 256; sign++) {
            String one = "" + (char) sign;
            boolean isSpace = sign == 32 || sign == 10;
            boolean isLetter = sign >= 'a' && sign <= 'z';
            boolean isDigit = sign >= '0' && sign <= '9';
            run(one + "well 1;", isSpace ? "1" : "1@0");
            run("well 1;" + one, isSpace ? "1" : isLetter ? "1@7" : "1@7");
            run("well" + one + "1;", isSpace || isDigit && sign <= '1' ? "1" : isDigit ? "0" : isLetter ? "1@0"
                    : "1@4");
        }
    }

    private static void lengthsOfTokens() {
        Check.terms(6, "numbers (maximal runs of digits, at most 4 digits)");
        run("well 0020;", "1");
        run("well 00020;", "1@5");
        run("repeat 0001 (well 1;);", "1");
        run("repeat 00001 (well 1;);", "1@7");
        run("repeat 1 000" + (int) '(' + " well 1;);", "1@9");
        run("repeat 1 (well 1;000" + (int) ')' + ";", "1@17");
        run("repeat" + "9".repeat(594), "1@6");
        Check.terms(6, "words (maximal runs of the letters a to z, at most 8 letters)");
        EchoMarket x = Check.described("market;valley abcdefgh 1 1 1;");
        Check.due("eight letters", Check.run(x, "fog abcdefgh 1;"), "1");
        Check.due("nine letters", Check.run(x, "fog abcdefghi 1;"), "1@4");
        Check.due("seven letters", Check.run(x, "fog abcdefg 1;"), "4@4");
    }

    private static void repeatNumbers() {
        Check.terms(7, "Code 2 applies only to the number of \"repeat\", which is 1 to 20; other numbers may be 0 to "
                + "9999.");
        run("repeat 0 (well 1;);", "2@7");
        run("repeat 1 (well 1;);", "1");
        run("repeat 20 (well 1;);", "20");
        run("repeat 21 (well 1;);", "2@7");
        run("repeat 257 (well 1;);", "2@7");
        run("repeat 9999 (well 1;);", "2@7");
        run("repeat 10000 (well 1;);", "1@7");
        run("repeat 1 (repeat 0 (", "2@17");
        run("repeat 1 (repeat 21 (", "2@17");
        run("repeat 0", "2@7");
    }

    private static void otherNumbers() {
        Check.terms(7, "other numbers may be 0 to 9999");
        for (String command : COMMANDS) {
            for (int at = command.indexOf('1'); at >= 0; at = command.indexOf('1', at + 1)) {
                for (String number : new String[] {"0", "21", "241", "9999"}) {
                    EchoMarket x = market();
                    Check.run(x, command.substring(0, at) + number + command.substring(at + 1));
                    Check.due("the code of " + command + " with " + number, x.errorCode(), 0);
                }
                run(command.substring(0, at) + "10000" + command.substring(at + 1), "1@" + at);
            }
        }
    }

    private static void thirdRepeat() {
        Check.terms(7, "Code 3 is reported for the word \"repeat\" inside two other repeats.");
        run("repeat 1 (repeat 1 (well 1;););", "1");
        run("repeat 1 (repeat 1 (repeat 1 (well 1;);););", "3@20");
        run("repeat 1 (repeat 1 (repeat", "3@20");
        run("repeat 1 (repeat 1 (well 1; repeat 1 (", "3@28");
        run("repeat 1 (repeat 1 (););repeat 1 (repeat 1 (););", "0");
        run("repeat 1 (repeat 1 ();repeat 1 ();repeat 1 (well 1;););", "1");
        run("repeat 1 (repeat 1 ();repeat 1 (repeat 1", "3@32");
        run("repeat 1 ();repeat 1 ();repeat 1 ();", "0");
    }

    private static void thirtyFirstCommand() {
        Check.terms(7, "Code 5 is reported for the first word of the 31st command of the text; each \"repeat\" counts "
                + "as one command, and so does each command inside it.");
        String[] words = {"shout", "fog", "price", "well", "pass", "fake", "cancel", "repeat"};
        String thirty = "fog v 1;".repeat(30);
        run(thirty.substring(8), "29");
        run(thirty, "30");
        for (String word : words) {
            run(thirty + word, "5@240");
            run(thirty + " \n" + word + " ;", "5@242");
            run(thirty.substring(8) + word, "1@" + (232 + word.length()));
        }
        EchoMarket x = market();
        for (int i = 0; i < 3; i++) {
            Check.due("each text has thirty of its own", Check.run(x, thirty), "30");
        }
    }

    private static void countOfNestedCommands() {
        Check.terms(7, "each \"repeat\" counts as one command, and so does each command inside it");
        String some = "fog v 1;";
        run("repeat 1 (" + some.repeat(29) + ");", "29");
        run("repeat 1 (" + some.repeat(30) + ");", "5@242");
        run("repeat 1 (" + some.repeat(29) + ");fog", "5@244");
        run("repeat 1 (repeat 1 (" + some.repeat(28) + "););", "28");
        run("repeat 1 (repeat 1 (" + some.repeat(29), "5@244");
        run("repeat 1 ();".repeat(30), "0");
        run("repeat 1 ();".repeat(30) + "repeat", "5@360");
        run("repeat 20 (" + some + ");" + some.repeat(28), "40");
        run("repeat 20 (" + some + ");" + some.repeat(29), "5@245");
    }

    private static void smallestCode() {
        Check.terms(6, "If several error codes apply to the same token, the smallest is reported");
        String inTwo = "repeat 1 (repeat 1 (" + "fog v 1;".repeat(28);
        run(inTwo + "repeat 1 (", "3@244");
        run(inTwo + "repeats", "1@244");
        run(inTwo + "market", "1@244");
        run(inTwo + "fog", "5@244");
        run(inTwo + ";", "1@244");
        run("repeat 12345", "1@7");
    }

    private static void namesUnknown() {
        Check.terms(6, "4: a name that must denote an existing valley or customer does not.");
        run("shout v v 1 1;", "4@6");
        run("shout c c 1 1;", "4@8");
        run("shout cc v 1 1;", "4@6");
        run("fog c 1;", "4@4");
        run("price c 1;", "4@6");
        run("fog repeat 1;", "4@4");
        Check.due("a market without valleys", Check.run(new EchoMarket(), "well 1;fog v 1;"), "4@11");
        EchoMarket x = Check.described("market;valley repeat 1 1 1;customer shout 9 9;");
        Check.due("any words may be names", Check.run(x, "shout shout repeat 9 1;fog repeat 1;price repeat 1;"), "3");
    }

    private static void asOftenAsItsNumber() {
        Check.terms(7, "\"repeat\" executes the enclosed commands as often as its number says.");
        for (int number = 1; number <= 20; number++) {
            EchoMarket x = market();
            Check.due("repeat " + number, Check.run(x, "repeat " + number + " (pass 3;);"), "" + number);
            Check.due("time", x.time(), 3 * number);
        }
        for (int outer = 1; outer <= 6; outer++) {
            for (int inner = 1; inner <= 6; inner++) {
                EchoMarket x = market();
                String text = "repeat " + outer + "(repeat " + inner + "(pass 7;););";
                Check.due(text, Check.run(x, text), "" + outer * inner);
                Check.due("time", x.time(), 7 * outer * inner);
            }
        }
        EchoMarket x = market();
        Check.due("in their order", Check.run(x, "repeat 2 (well 3;repeat 2 (pass 1;well 5;);fog v 4;);"), "12");
        Check.due("wellDepth", x.wellDepth(), 5);
        Check.due("time", x.time(), 4);
    }

    private static void firstException() {
        Check.terms(7, "That command is not counted, and the effects of the commands before it remain.");
        run("well 21;well 3;", "0");
        run("well 20;well 21;well 3;", "1");
        EchoMarket x = market();
        Check.due("the third command", Check.run(x, "well 2;pass 5;cancel 0;well 3;pass 6;"), "2");
        Check.due("wellDepth", x.wellDepth(), 2);
        Check.due("time", x.time(), 5);
        Check.due("no error", x.errorCode(), 0);
        Check.due("one call to undo", x.undo(), 0);
        Check.due("wellDepth", x.wellDepth(), 0);
        Check.due("in the second turn of a repeat", Check.run(x, "repeat 9 (pass 1;shout c v 9 1;);well 4;"), "3");
        Check.due("nothing behind the repeat", x.wellDepth(), 0);
        Check.due("in a repeat of a repeat", Check.run(x, "repeat 9 (repeat 2 (pass 1;cancel 0;););well 4;"), "3");
        Check.due("time", x.time(), 4);
        x = market();
        Check.due("nothing executed", Check.run(x, "fake 0;"), "0");
        Check.due("is one call to undo too", x.undo(), 0);
    }

    /** Each way in which a method that a command calls throws. */
    private static void everyException() {
        Check.terms(7, "Execution ends at the first command whose method throws an exception.");
        for (String bad : new String[] {"shout c v 0 1", "shout c v 21 1", "shout c v 1 0", "shout c v 1 5",
                "shout c w 1 3", "shout c v 9999 9999", "fog v 10", "fog v 9999", "price v 0", "price v 100", "well 21",
                "pass 0", "pass 241", "pass 9999", "fake 2", "fake 9999", "cancel 2", "cancel 9999", "fake 0",
                "cancel 0", "shout c v 1 1"}) {
            EchoMarket x = market();
            Check.script(x, "shout c v 1 1;cancel 0;shout c v 1 1;");
            Check.due("runScript of " + bad, Check.run(x, bad + ";well 1;"), "0");
            Check.due("behind " + bad, x.wellDepth(), 0);
        }
        for (String good : new String[] {"shout c w 1 1", "shout c w 20 2", "shout d v 1 4", "fog v 0", "fog v 9",
                "price v 1", "price v 99", "well 0", "well 20", "pass 1", "pass 240", "fake 1", "cancel 1"}) {
            EchoMarket x = market();
            Check.script(x, "shout c v 1 1;cancel 0;shout c v 1 1;");
            Check.due("runScript of " + good, Check.run(x, good + ";well 1;"), "2");
        }
    }

    private static void fortyCommands() {
        Check.terms(7, "Execution also ends when 40 commands have been executed; a \"repeat\" itself is not counted.");
        for (int more = 8; more <= 12; more++) {
            EchoMarket x = market();
            String text = "repeat 10 (pass 1;pass 1;pass 1;);" + "pass 100;".repeat(more);
            Check.due(text, Check.run(x, text), "" + Math.min(40, 30 + more));
            Check.due("time", x.time(), 30 + 100 * Math.min(10, more));
        }
        EchoMarket x = market();
        Check.due("repeats of repeats", Check.run(x, "repeat 20 (repeat 20 (pass 1;););well 1;"), "40");
        Check.due("time", x.time(), 40);
        Check.due("wellDepth", x.wellDepth(), 0);
        Check.promise(5, "Returns the number of executed commands, \"repeat\" not counted.");
        Check.due("forty ones", Check.run(x, "repeat 20 (repeat 2 (pass 1;););"), "40");
        Check.due("twenty ones", Check.run(x, "repeat 20 (repeat 1 (pass 1;););"), "20");
        Check.due("empty repeats", Check.run(x, "repeat 20 ();repeat 20 (repeat 20 (););well 2;"), "1");
    }

    private static void fortyInRepeats() {
        Check.terms(7, "Execution also ends when 40 commands have been executed");
        EchoMarket x = market();
        Check.due("in the middle of a turn", Check.run(x, "repeat 14 (pass 1;pass 10;pass 100;);"), "40");
        Check.due("time", x.time(), 13 * 111 + 1);
        Check.due("the 41st would throw", Check.run(x, "repeat 20 (well 1;well 2;);well 21;"), "40");
        Check.due("the 40th throws", Check.run(x, "repeat 13 (well 1;well 2;well 3;);well 21;"), "39");
        Check.due("the 39th throws", Check.run(x, "repeat 19 (well 1;well 2;);well 21;well 4;"), "38");
        Check.due("wellDepth", x.wellDepth(), 2);
    }

    private static void oneUndoableCall() {
        Check.terms(8, "runScript() with a valid text is one undoable call, however many commands it executed.");
        for (String text : new String[] {"", "well 21;", "well 1;", "repeat 20 (well 1;well 2;);"}) {
            EchoMarket x = market();
            x.setWell(20);
            Check.run(x, text);
            Check.due("undo of " + text, x.undo(), 1);
            Check.due("wellDepth", x.wellDepth(), 20);
            Check.due("undo of setWell", x.undo(), 0);
            Check.due("wellDepth", x.wellDepth(), 0);
        }
        EchoMarket x = new EchoMarket();
        for (int i = 1; i <= 8; i++) {
            Check.run(x, "well " + i + ";pass 1;pass 1;");
        }
        for (int left = 5; left >= 0; left--) {
            Check.due("undo", x.undo(), left);
            Check.due("wellDepth", x.wellDepth(), left + 2);
        }
        Check.state("the seventh undo", () -> x.undo());
    }

    private static EchoMarket busy() {
        EchoMarket x = Check.described("market;valley a 5 4 5;valley b 60 4 9;customer c 40 90;customer d 99 90;"
                + "shout c a 9 3;shout d b 9 1;well 9;pass 3;");
        x.saveState();
        x.printReceipt(0);
        x.fake(0);
        x.setFog(1, 9);
        return x;
    }

    private static void errorChangesNothing() {
        Check.promise(5, "Throws `IllegalArgumentException` if the text has an error; then only the input buffer and the "
                + "error change");
        String before = Portrait.withoutTexts(() -> busy());
        for (String text : new String[] {"x", "well 3", "well 3;pass 1;cancel 0;well", "fog x 1;", "repeat 21 ();",
                "well 3;repeat 2 (pass 3;);)", "repeat 1 (repeat 1 (repeat 1 (", "pass 1;".repeat(31)}) {
            Supplier<EchoMarket> failed = () -> {
                EchoMarket x = Check.feed(busy(), text);
                Check.argument("runScript of " + text, () -> x.runScript());
                return x;
            };
            Check.due("everything else behind " + text, Portrait.withoutTexts(failed), before);
            Check.due("the input behind " + text, Portrait.inputLength(failed), 0);
            Check.due("there is an error", failed.get().errorCode() > 0, true);
        }
        EchoMarket y = market();
        Check.due("an error in two repeats", Check.run(y, "repeat 2 (well 9; repeat 2 (well 8;"), "1@35");
        Check.due("the next text begins outside of them", Check.run(y, "well 1;"), "1");
        Check.due("an error in one repeat", Check.run(y, "repeat 2 ("), "1@10");
        Check.due("the next text may have two", Check.run(y, "repeat 2 (repeat 2 (well 2;););"), "4");
        Check.promise(5, "The input buffer is emptied, also on an error.");
        EchoMarket x = Check.feed(busy(), "pass 1;");
        x.runScript();
        Check.argument("without an error", () -> x.truncate(1));
        Check.due("the output stays", x.outputByte(0), 'c');
        Check.due("the saved state stays", x.restoreState(), 3);
    }

    private static void sameAsTheMethods() {
        Check.terms(7, "The commands call shout(), setFog(), setPrice(), setWell(), pass(), fake() and cancel().");
        Supplier<EchoMarket> byScript = () -> {
            EchoMarket x = market();
            Check.script(x, "shout c v 9 3;fog v 2;price w 1;well 3;pass 12;shout d w 3 2;fake 0;pass 4;cancel 1;");
            return x;
        };
        Supplier<EchoMarket> byCalls = () -> {
            EchoMarket x = market();
            x.shout(0, 0, 9, 3);
            x.setFog(0, 2);
            x.setPrice(1, 1);
            x.setWell(3);
            x.pass(12);
            x.shout(1, 1, 3, 2);
            x.fake(0);
            x.pass(4);
            x.cancel(1);
            return x;
        };
        Check.due("the market behind nine commands", Portrait.ofMarket(byScript), Portrait.ofMarket(byCalls));
    }
}
