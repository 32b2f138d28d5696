import java.util.Arrays;
import java.util.function.Supplier;

/** Section 8, undo and the saved state, and the 512 calls that an object is good for: each sentence with a bound. */
public final class BoundsOfUndoTest {
    private static final String[] NAMES = {"addValley", "addCustomer", "shout", "cancel", "fake", "setFog", "setPrice",
            "setWell", "pass", "runScript"};

    public static void main(String[] args) {
        everyUndoableCall();
        latestFirst();
        sixCalls();
        seventhCall();
        ringOfCalls();
        failedCalls();
        callsThatAreNotUndoable();
        whatUndoLeaves();
        nothingToUndo();
        undoneShouts();
        undoneEchoes();
        addedBehindRestore();
        noSavedState();
        savedState();
        laterSavedState();
        savedStateStays();
        nothingToUndoBehindRestore();
        emptyOutput();
        lastOfManyCalls();
        Check.end();
    }

    private static EchoMarket market() {
        return Check.described("market;valley v 10 4 5;valley w 4 2 7;customer c 30 100;customer d 100 99;"
                + "shout c v 5 3;pass 10;well 3;");
    }

    /** One successful undoable call of each kind, by its place in NAMES; it may be made once behind each other one. */
    private static void change(EchoMarket x, int kind) {
        switch (kind) {
            case 0 -> Check.feed(x, "z").addValley(1, 1, 1);
            case 1 -> Check.feed(x, "z").addCustomer(1, 1);
            case 2 -> x.shout(1, 1, 9, 1);
            case 3 -> x.cancel(0);
            case 4 -> x.fake(0);
            case 5 -> x.setFog(0, 9);
            case 6 -> x.setPrice(1, 9);
            case 7 -> x.setWell(9);
            case 8 -> x.pass(30);
            default -> Check.script(x, "shout d w 9 1;pass 9;");
        }
    }

    private static Supplier<EchoMarket> changed(int... kinds) {
        return () -> {
            EchoMarket x = market();
            for (int kind : kinds) {
                change(x, kind);
            }
            return x;
        };
    }

    private static Supplier<EchoMarket> undone(Supplier<EchoMarket> maker, int times) {
        return () -> {
            EchoMarket x = maker.get();
            for (int i = 0; i < times; i++) {
                x.undo();
            }
            return x;
        };
    }

    private static void everyUndoableCall() {
        Check.terms(8, "Each successful call of a method that is described as undoable can be undone, the latest first.");
        String before = Portrait.ofMarket(changed());
        for (int kind = 0; kind < NAMES.length; kind++) {
            Check.due(NAMES[kind] + " changes", Portrait.ofMarket(changed(kind)).equals(before), false);
            Check.due("undo of " + NAMES[kind], changed(kind).get().undo(), 0);
            Check.due("behind undo of " + NAMES[kind], Portrait.of(undone(changed(kind), 1)),
                    Portrait.of(changed()));
        }
        Check.due("a change to the same is a call too", undoOfSame(), 0);
    }

    private static long undoOfSame() {
        EchoMarket x = market();
        x.setWell(3);
        return x.undo();
    }

    private static void latestFirst() {
        Check.terms(8, "the latest first");
        int[] kinds = {2, 5, 0, 4, 6, 1};
        Supplier<EchoMarket> all = changed(kinds);
        for (int undone = 1; undone <= 6; undone++) {
            int[] left = Arrays.copyOf(kinds, 6 - undone);
            Check.due("undo " + undone, undone(all, undone - 1).get().undo(), 6 - undone);
            Check.due("behind undo " + undone, Portrait.ofMarket(undone(all, undone)),
                    Portrait.ofMarket(changed(left)));
        }
    }

    private static EchoMarket wells(int calls) {
        EchoMarket x = new EchoMarket();
        for (int depth = 1; depth <= calls; depth++) {
            x.setWell(depth);
        }
        return x;
    }

    private static void sixCalls() {
        Check.terms(8, "At most 6 such calls are remembered; a seventh one makes the oldest of them be forgotten.");
        Check.promise(61, "Returns the number of calls that can still be undone.");
        for (int calls = 0; calls <= 20; calls++) {
            EchoMarket x = wells(calls);
            int remembered = Math.min(6, calls);
            for (int left = remembered - 1; left >= 0; left--) {
                Check.due("undo behind " + calls + " calls", x.undo(), left);
                Check.due("wellDepth", x.wellDepth(), calls - remembered + left);
            }
            Check.state("one undo more", () -> x.undo());
            Check.due("wellDepth", x.wellDepth(), calls - remembered);
        }
    }

    private static void seventhCall() {
        Check.terms(8, "a seventh one makes the oldest of them be forgotten");
        for (int kind = 0; kind < NAMES.length; kind++) {
            EchoMarket x = market();
            for (int i = 1; i <= 6; i++) {
                x.setWell(3 + i);
            }
            change(x, kind);
            Check.due("undo of " + NAMES[kind], x.undo(), 5);
            for (int left = 4; left >= 0; left--) {
                Check.due("undo", x.undo(), left);
            }
            Check.due("the oldest is forgotten behind " + NAMES[kind], x.wellDepth(), 4);
            Check.state("it can't be undone", () -> x.undo());
        }
    }

    private static void ringOfCalls() {
        Check.promise(61, "Undoes the latest undoable call that has not been undone.");
        EchoMarket x = wells(6);
        x.undo();
        x.undo();
        x.setWell(15);
        Check.due("one more", x.undo(), 4);
        Check.due("wellDepth", x.wellDepth(), 4);
        x.setWell(16);
        x.setWell(17);
        x.setWell(18);
        for (int left = 5; left >= 0; left--) {
            Check.due("undo", x.undo(), left);
        }
        Check.due("the oldest of seven is forgotten", x.wellDepth(), 1);
        for (int turn = 0; turn < 20; turn++) {
            x.setWell(turn);
            x.setWell(20 - turn);
            Check.due("undo", x.undo(), 1);
            Check.due("wellDepth", x.wellDepth(), turn);
            Check.due("undo", x.undo(), 0);
            Check.due("wellDepth", x.wellDepth(), 1);
        }
    }

    private static void failedCalls() {
        Check.terms(8, "Each successful call of a method that is described as undoable can be undone");
        EchoMarket x = market();
        x.setWell(4);
        Check.state("addValley", () -> x.addValley(1, 1, 1));
        Check.state("addCustomer", () -> x.addCustomer(1, 1));
        Check.state("shout", () -> x.shout(0, 0, 9, 1));
        Check.index("cancel", () -> x.cancel(1));
        Check.index("fake", () -> x.fake(1));
        Check.index("setFog", () -> x.setFog(2, 0));
        Check.argument("setPrice", () -> x.setPrice(0, 0));
        Check.argument("setWell", () -> x.setWell(21));
        Check.argument("pass", () -> x.pass(0));
        Check.due("a script with an error", Check.run(x, "well 9;x"), "1@7");
        Check.due("a description with an error", Check.read(x, "market;x"), "1@7");
        Check.due("undo", x.undo(), 0);
        Check.due("wellDepth", x.wellDepth(), 3);
    }

    private static void callsThatAreNotUndoable() {
        Check.promise(61, "Throws `IllegalStateException` if there is none to undo");
        EchoMarket x = market();
        x.saveState();
        x.printReceipt(0);
        x.feed(0, 0, 0, 0, 0);
        x.truncate(0);
        x.nextEvent();
        x.earnedAfter(240);
        Check.state("none of these can be undone", () -> x.undo());
    }

    private static void whatUndoLeaves() {
        Check.terms(8, "undo() restores everything except the input buffer, the error, the output and the saved state.");
        EchoMarket x = market();
        x.setWell(4);
        Check.feed(x, "name").addValley(1, 1, 1);
        Check.run(x, "well 3;y");
        x.printReceipt(0);
        x.saveState();
        Check.feed(x, "input");
        x.undo();
        x.undo();
        Check.due("the input buffer", x.truncate(5), 5);
        Check.due("the input is not what addValley() took", x.findValley(), -1);
        Check.due("the error", x.errorCode() * 100 + x.errorOffset(), 107);
        Check.due("the output", Check.output(x, 10), "c@v h.. 5\n");
        Check.due("wellDepth", x.wellDepth(), 3);
        Check.due("the saved state", x.restoreState(), 10);
        Check.due("its well", x.wellDepth(), 4);
        Check.due("its valley", x.valleyCount(), 3);
        EchoMarket y = Check.feed(new EchoMarket(), "name");
        y.addValley(1, 1, 1);
        y.undo();
        Check.argument("a name that was taken is not given back", () -> y.truncate(1));
    }

    private static void nothingToUndo() {
        Check.promise(61, "Throws `IllegalStateException` if there is none to undo");
        Bounds.state("undo of a new market", () -> new EchoMarket(), x -> x.undo());
        Bounds.state("undo of a described market", () -> market(), x -> x.undo());
        Bounds.state("undo behind undo", undone(changed(4), 1), x -> x.undo());
        Bounds.state("undo behind six", undone(changed(2, 5, 0, 4, 6, 1, 7), 6), x -> x.undo());
    }

    private static void undoneShouts() {
        Check.terms(8, "undo() restores everything");
        EchoMarket x = market();
        x.shout(1, 1, 9, 2);
        x.pass(8);
        x.undo();
        x.undo();
        Check.index("a shout that was undone", () -> x.shoutState(1));
        Check.due("its number is free", x.shout(1, 0, 1, 4), 1);
        Check.due("it is open", x.shoutState(1), 0);
        Check.due("it has not returned", x.returns(1) + x.receipt(1), 0);
        Check.due("its receipt", Check.output(x, x.printReceipt(1)), "d@v .... 0\n");
        EchoMarket y = market();
        Check.script(y, "shout d w 9 2;pass 8;");
        y.undo();
        Check.due("the number of a shout that a script sold", y.shout(1, 1, 1, 2), 1);
        Check.due("it is open", y.shoutState(1), 0);
        Check.due("it has not returned", y.returns(1) + y.receipt(1), 0);
        Check.due("its receipt", Check.output(y, y.printReceipt(1)), "d@w .. 0\n");
    }

    private static void undoneEchoes() {
        Check.terms(8, "undo() restores everything");
        EchoMarket x = market();
        Check.due("one heard echo", x.heardFraction(), 1.0f);
        x.pass(20);
        Check.due("and one lost", x.heardFraction(), 2.0f / 3.0f);
        Check.due("echoesLost", x.echoesLost(0), 1);
        x.undo();
        Check.due("heardFraction behind undo", x.heardFraction(), 1.0f);
        Check.due("echoesLost behind undo", x.echoesLost(0), 0);
    }

    /** What is added behind restoreState() has nothing of what stood in its place before. */
    private static void addedBehindRestore() {
        Check.promise(65, "Restores the saved state, which stays saved.");
        Supplier<EchoMarket> restored = () -> {
            EchoMarket x = new EchoMarket();
            x.saveState();
            Check.read(x, "market;valley v 1 4 9;customer c 99 99;well 1;fog v 3;shout c v 6 3;pass 2;fake 0;");
            x.restoreState();
            return added(x);
        };
        Check.due("the market", Portrait.ofMarket(restored), Portrait.ofMarket(() -> added(new EchoMarket())));
    }

    private static EchoMarket added(EchoMarket x) {
        Check.feed(x, "w").addValley(5, 4, 3);
        Check.feed(x, "d").addCustomer(99, 99);
        x.shout(0, 0, 20, 4);
        return x;
    }

    private static void noSavedState() {
        Check.promise(65, "Throws `IllegalStateException` if no state is saved");
        Bounds.state("restoreState of a new market", () -> new EchoMarket(), x -> x.restoreState());
        Bounds.state("restoreState of another market", changed(2, 8), x -> x.restoreState());
        Check.promise(1, "Creates a market without valleys and customers, with time 0, an empty input buffer, empty "
                + "output and no saved state.");
        EchoMarket x = new EchoMarket();
        x.saveState();
        Check.state("a saved state is the object's own", () -> new EchoMarket().restoreState());
    }

    private static void savedState() {
        Check.promise(64, "Saves everything that undo() can restore, replacing an earlier saved state.");
        for (int kind = 0; kind < NAMES.length; kind++) {
            int changing = kind;
            String saved = Portrait.ofMarket(changed(changing));
            Supplier<EchoMarket> restored = () -> {
                EchoMarket x = changed(changing).get();
                x.saveState();
                Check.read(x, "market;valley e 1 1 1;customer f 9 9;shout f e 1 1;well 20;pass 1;");
                x.restoreState();
                return x;
            };
            Check.due("the market saved behind " + NAMES[kind], Portrait.ofMarket(restored), saved);
        }
        Check.promise(64, "Returns the time.");
        Check.due("saveState of a new market", new EchoMarket().saveState(), 0);
        Check.due("saveState at 10", market().saveState(), 10);
        EchoMarket x = Check.described("market;" + "pass240;".repeat(41) + "pass159;");
        Check.due("saveState in the last second", x.saveState(), 9999);
        Check.due("restoreState in the last second", x.restoreState(), 9999);
    }

    private static void laterSavedState() {
        Check.promise(64, "replacing an earlier saved state");
        EchoMarket x = new EchoMarket();
        for (int i = 1; i <= 8; i++) {
            x.pass(1);
            Check.due("saveState", x.saveState(), i);
        }
        x.pass(99);
        Check.due("the latest", x.restoreState(), 8);
    }

    private static void savedStateStays() {
        Check.promise(65, "Restores the saved state, which stays saved.");
        EchoMarket x = market();
        x.saveState();
        for (int i = 0; i < 3; i++) {
            x.pass(i + 5);
            x.setWell(i + 9);
            Check.promise(65, "Returns the time afterwards.");
            Check.due("restoreState", x.restoreState(), 10);
            Check.due("wellDepth", x.wellDepth(), 3);
        }
        Check.due("restoreState at once again", x.restoreState(), 10);
    }

    private static void nothingToUndoBehindRestore() {
        Check.promise(65, "Afterwards nothing can be undone.");
        for (int calls = 0; calls <= 7; calls++) {
            EchoMarket x = wells(calls);
            x.saveState();
            long left = calls == 0 ? 0 : x.undo();
            Check.due("saveState keeps what can be undone", left, Math.max(0, Math.min(6, calls) - 1));
            x.restoreState();
            Check.state("undo behind restoreState", () -> x.undo());
            Check.due("wellDepth", x.wellDepth(), calls);
            x.setWell(20);
            Check.due("undo of a call behind it", x.undo(), 0);
            Check.due("wellDepth", x.wellDepth(), calls);
        }
    }

    private static void emptyOutput() {
        Check.promise(63, "Throws `IndexOutOfBoundsException` if the output has no such byte");
        Bounds.indices("outputByte of a new market", () -> new EchoMarket(), 0, (x, n) -> x.outputByte(n));
        Check.promise(62, "Replaces the output by the receipt of a shout");
        EchoMarket x = market();
        Check.due("printReceipt", x.printReceipt(0), 10);
        Check.index("the byte behind the last", () -> x.outputByte(10));
        Check.due("the last byte", x.outputByte(9), '\n');
    }

    private static void lastOfManyCalls() {
        Check.terms(0, "An object is used for at most 512 calls after it has been made");
        EchoMarket x = new EchoMarket();
        for (int call = 1; call <= 511; call++) {
            Check.due("setWell", x.setWell(call % 21), (call - 1) % 21);
        }
        Check.due("the 512th call", x.setWell(0), 511 % 21);
        EchoMarket y = Check.described("market;valley v 1 4 1;customer c 9 99;");
        for (int call = 5; call <= 511; call++) {
            y.pass(19);
        }
        Check.due("the 512th call", y.time(), 507 * 19);
    }
}
