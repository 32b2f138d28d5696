/** Promises 62 and 63: receipts and the output. */
public final class OutputTest {
    public static void main(String[] args) {
        receipts();
        longReceipts();
        bytes();
        Check.end();
    }

    private static String receipt(EchoMarket x, int shout) {
        return Check.output(x, x.printReceipt(shout));
    }

    private static void receipts() {
        EchoMarket x = Check.described("market;valley zug 10 3 5;customer ann 25 40;shout ann zug 7 3;");
        Check.due("before a return", receipt(x, 0), "ann@zug ... 0\n");
        x.pass(10);
        Check.due("a heard echo", receipt(x, 0), "ann@zug h.. 5\n");
        x.setFog(0, 4);
        x.pass(10);
        Check.due("a lost echo", receipt(x, 0), "ann@zug hl. 5\n");
        x.setWell(1);
        x.fake(0);
        Check.due("a faked echo", receipt(x, 0), "ann@zug hlh 10\n");
        Check.script(x, "price zug 50;shout ann zug 9 1;");
        Check.due("the latest shout was refused", x.shoutCount(), 1);
        Check.script(x, "price zug 30;shout ann zug 6 1;pass 25;");
        Check.due("one wall, which lost its echo", receipt(x, 1), "ann@zug l 0\n");
        Check.script(x, "shout ann zug 9 1;cancel 2;");
        Check.due("a cancelled shout", receipt(x, 2), "ann@zug . 0\n");
    }

    private static void longReceipts() {
        EchoMarket x = Check.described("market;valley abcdefgh 1 4 99;customer zyxwvuts 240 9999;valley a 1 2 50;"
                + "customer b 9 100;shout zyxwvuts abcdefgh 20 4;shout b a 20 2;pass 4;");
        Check.due("the longest", receipt(x, 0), "zyxwvuts@abcdefgh hhhh 396\n");
        Check.due("length", x.printReceipt(0), 27);
        Check.due("zeros within the sum", receipt(x, 1), "b@a hh 100\n");
        Check.due("length", x.printReceipt(1), 11);
        Check.index("the longer output before is gone", () -> x.outputByte(11));
    }

    private static void bytes() {
        EchoMarket x = Check.described("market;valley v 1 1 1;customer c 9 9;shout c v 9 1;");
        Check.index("outputByte of an empty output", () -> x.outputByte(0));
        Check.index("printReceipt(1)", () -> x.printReceipt(1));
        Check.index("outputByte after a wrong printReceipt", () -> x.outputByte(0));
        Check.due("printReceipt", x.printReceipt(0), 8);
        for (int s : new int[] {-1, 1, 30, Integer.MIN_VALUE, Integer.MAX_VALUE}) {
            Check.index("printReceipt(" + s + ")", () -> x.printReceipt(s));
        }
        for (int i : new int[] {-1, 8, Integer.MIN_VALUE, Integer.MAX_VALUE}) {
            Check.index("outputByte(" + i + ")", () -> x.outputByte(i));
        }
        Check.due("outputByte(0)", x.outputByte(0), 'c');
        Check.due("outputByte(1)", x.outputByte(1), 64);
        Check.due("outputByte(4)", x.outputByte(4), 46);
        Check.due("outputByte(7)", x.outputByte(7), 10);
        x.pass(1);
        Check.due("the output stays as it is", x.outputByte(4), 46);
    }
}
