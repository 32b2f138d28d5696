/** Promise 5 and section 7: scripts, their error codes and offsets, and their execution. */
public final class ScriptTest {
    public static void main(String[] args) {
        commands();
        grammar();
        codes();
        thirtyCommands();
        repeats();
        endOfExecution();
        fortyCommands();
        undoing();
        failing();
        Check.end();
    }

    private static EchoMarket market() {
        return Check.described("market;valley v 10 4 5;valley w 4 2 7;customer c 30 100;customer d 100 99;");
    }

    private static void run(String text, String want) {
        Check.due("runScript of " + text, Check.run(market(), text), want);
    }

    private static void commands() {
        EchoMarket x = market();
        Check.due("shouts", Check.run(x, "shout c v 20 3; shout d w 9 2;"), "2");
        Check.due("shoutValley(1)", x.shoutValley(1), 1);
        Check.due("shoutCustomer(1)", x.shoutCustomer(1), 1);
        Check.due("money(0)", x.money(0), 85);
        Check.due("others", Check.run(x, "fog v 7;price w 9;well 5;pass 4;fake 0;cancel 1;"), "6");
        Check.due("fog", x.setFog(0, 0), 7);
        Check.due("price(1)", x.price(1), 9);
        Check.due("wellDepth", x.wellDepth(), 5);
        Check.due("a price is not a depth", Check.run(x, "well 6;price v 3;"), "2");
        Check.due("wellDepth", x.wellDepth(), 6);
        Check.due("time", x.time(), 4);
        Check.due("returns(0)", x.returns(0), 1);
        Check.due("shoutState(1)", x.shoutState(1), 2);
        Check.due("errorCode", x.errorCode(), 0);
        Check.due("errorOffset", x.errorOffset(), -1);
        Check.argument("the input is empty", () -> x.truncate(1));
    }

    private static void grammar() {
        run("", "0");
        run(" \n ", "0");
        run("well1;", "1");
        run("\nwell\n1\n;\n", "1");
        run(";", "1@0");
        run("market;", "1@0");
        run("valley z 1 1 1;", "1@0");
        run("customer z 1 1;", "1@0");
        run("well 1", "1@6");
        run("well 1  ", "1@8");
        run("well 1 well", "1@7");
        run("well 12345;", "1@5");
        run("wellwellwell 1;", "1@0");
        run("shout 1", "1@6");
        run("shout c v 1;", "1@11");
        run("shout c v 1 1 1;", "1@14");
        run("fog v;", "1@5");
        run("fog 1 1;", "1@4");
        run("pass v;", "1@5");
        run("cancel", "1@6");
        run("repeat (", "1@7");
        run("repeat 1 well", "1@9");
        run("repeat 1;", "1@8");
        run("repeat 1 (", "1@10");
        run("repeat 1 (well 1", "1@16");
        run("repeat 1 (well 1)", "1@16");
        run("repeat 1 (well 1;", "1@17");
        run("repeat 1 (well 1;)", "1@18");
        run("repeat 1 (well 1;) well 1;", "1@19");
        run("repeat 1 (;);", "1@10");
        run("repeat 1 ();)", "1@12");
        run(")", "1@0");
        run("(", "1@0");
        run("well 1;)", "1@7");
        run("repeat 1 ((", "1@10");
        run("repeat 1 (repeat 1 (well 1;);", "1@29");
        run("well 1;#", "1@7");
    }

    private static void codes() {
        run("repeat 0 (", "2@7");
        run("repeat 21 (", "2@7");
        run("repeat 9999 (", "2@7");
        run("repeat 20 ();", "0");
        run("well 9999;", "0");
        run("shout c v 9999 9999;", "0");
        run("shout c v 0 0;", "0");
        run("fake 9999;", "0");
        run("cancel 9999;", "0");
        run("pass 0;", "0");
        run("price v 0;", "0");
        run("shout x v 1 1;", "4@6");
        run("shout v v 1 1;", "4@6");
        run("shout c x 1 1;", "4@8");
        run("fog c 1;", "4@4");
        run("well 1;price x 1;", "4@13");
        run("repeat 1 (repeat 1 (repeat 1 (", "3@20");
        run("repeat 1 (repeat 1 (well 1;); repeat 1 (well 2;); repeat 1 (repeat 1 (", "3@60");
        run("repeat 1 (repeat 1 (repeats", "1@20");
        run("repeat 1 (repeat 1 (); repeat 1 ();); repeat 1 (repeat 1 (););", "0");
    }

    private static void thirtyCommands() {
        String thirty = "well 1;".repeat(30);
        run(thirty, "30");
        run(thirty + "well 1;", "5@210");
        run(thirty + "repeat", "5@210");
        run(thirty + "foo", "1@210");
        run(thirty + "valley", "1@210");
        run(thirty + ";", "1@210");
        run(thirty + "wells", "1@210");
        run("repeat 1 (" + "well 1;".repeat(29) + ");", "29");
        run("repeat 1 (" + thirty + ");", "5@213");
        run("repeat 1 (repeat 1 (" + "well 1;".repeat(28) + "););", "28");
        run("repeat 1 (repeat 1 (" + "well 1;".repeat(28) + "repeat 1 (", "3@216");
        run("repeat 1 (repeat 1 (" + "well 1;".repeat(28) + "pass 1", "5@216");
        run("repeat 1 ();".repeat(30), "0");
        run("repeat 1 ();".repeat(31), "5@360");
        EchoMarket x = market();
        Check.due("the commands of each text are counted", Check.run(x, thirty), "30");
        Check.due("the commands of each text are counted", Check.run(x, thirty), "30");
    }

    private static void repeats() {
        EchoMarket x = market();
        Check.due("a repeat", Check.run(x, "repeat 5 (pass 3;);"), "5");
        Check.due("time", x.time(), 15);
        Check.due("a repeat in a repeat", Check.run(x, "pass 1;repeat 2 (pass 2;repeat 3 (pass 10;);pass 1;);pass 1;"),
                "12");
        Check.due("time", x.time(), 83);
        Check.due("two repeats in one", Check.run(x, "repeat 3 (repeat 2 (pass 1;);repeat 4 (pass 10;););"), "18");
        Check.due("time", x.time(), 209);
        Check.due("once", Check.run(x, "repeat 1 (repeat 1 (pass 1;););"), "1");
        Check.due("empty bodies", Check.run(x, "repeat 20 (repeat 20 (););pass 1;"), "1");
        Check.due("sales", Check.run(x, "repeat 3 (shout c w 9 1;pass 4;);"), "6");
        Check.due("shoutCount", x.shoutCount(), 3);
    }

    private static void endOfExecution() {
        for (String bad : new String[] {"shout c v 0 1", "shout c v 21 1", "shout c v 9 0", "shout c v 9 5",
                "shout c w 9 3", "fog v 10", "price v 0", "price v 100", "well 21", "pass 0", "pass 241", "fake 0",
                "cancel 0", "cancel 9999"}) {
            EchoMarket x = market();
            Check.due("runScript with " + bad, Check.run(x, "fog v 1;pass 2;" + bad + ";pass 1;"), "2");
            Check.due("effects remain", x.time(), 2);
            Check.due("no error", x.errorCode(), 0);
            Check.due("undo", x.undo(), 0);
        }
        EchoMarket x = market();
        Check.due("in a repeat", Check.run(x, "repeat 9 (pass 1;shout c v 9 2;);pass 1;"), "3");
        Check.due("time", x.time(), 2);
        Check.due("cancel twice", Check.run(x, "cancel 0;cancel 0;"), "1");
        Check.due("fake of a cancelled shout", Check.run(x, "fake 0;"), "0");
        for (int i = 0; i < 41; i++) {
            x.pass(240);
        }
        Check.due("at the last second", Check.run(x, "repeat 20 (pass 50;);"), "3");
        Check.due("time", x.time(), 9992);
    }

    private static void fortyCommands() {
        EchoMarket x = market();
        Check.due("41 commands", Check.run(x, "repeat 20 (pass 1;pass 2;);pass 100;"), "40");
        Check.due("time", x.time(), 60);
        Check.due("40 in the middle of a body", Check.run(x, "repeat 20 (repeat 20 (pass 1;pass 2;pass 3;););"), "40");
        Check.due("time", x.time(), 139);
        Check.due("39 and one", Check.run(x, "repeat 13 (pass 1;pass 1;pass 1;);pass 3;pass 9;"), "40");
        Check.due("time", x.time(), 181);
        Check.due("the 41st may be wrong", Check.run(x, "repeat 20 (repeat 2 (pass 1;););pass 0;"), "40");
    }

    private static void undoing() {
        EchoMarket x = market();
        x.setWell(1);
        Check.script(x, "shout c v 9 1;pass 1;well 2;fog v 3;repeat 9 (pass 1;);");
        Check.due("one undoable call", x.undo(), 1);
        Check.due("time", x.time(), 0);
        Check.due("shoutCount", x.shoutCount(), 0);
        Check.due("wellDepth", x.wellDepth(), 1);
        Check.due("a script without commands", Check.run(x, ""), "0");
        Check.due("can be undone", x.undo(), 1);
        Check.due("the error stays", x.errorOffset(), -1);
        Check.due("wellDepth", x.wellDepth(), 1);
    }

    private static void failing() {
        EchoMarket x = market();
        x.setWell(1);
        Check.due("an error", Check.run(x, "well 3;pass 4;pass x;"), "1@19");
        Check.due("wellDepth", x.wellDepth(), 1);
        Check.due("time", x.time(), 0);
        Check.argument("the input is empty", () -> x.truncate(1));
        Check.due("undo", x.undo(), 0);
        Check.due("wellDepth", x.wellDepth(), 0);
        Check.due("no valley", Check.run(new EchoMarket(), "fog v 1;"), "4@4");
        Check.due("after errors in repeats", Check.run(x, "repeat 2 (repeat 2 ("), "1@20");
        Check.due("a valid script", Check.run(x, "repeat 2 (repeat 2 (pass 1;););"), "4");
    }
}
