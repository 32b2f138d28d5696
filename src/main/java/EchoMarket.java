/** A market that sells echoes of shouts in valleys: every echo that is sold comes back or is refunded. */
public final class EchoMarket {
    public static final int NONE = -1;

    private static final int MOST_BYTES = 600;
    private static final int BYTES_OF_A_FEED = 20;
    private static final int MOST_LETTERS = 8;
    private static final int MOST_DIGITS = 4;
    private static final int MOST_NUMBER = 9999;
    private static final int MOST_VALLEYS = 8;
    private static final int MOST_CUSTOMERS = 8;
    private static final int MOST_SHOUTS = 30;
    private static final int MOST_WIDTH = 60;
    private static final int MOST_WALLS = 4;
    private static final int MOST_PRICE = 99;
    private static final int MOST_FOG = 9;
    private static final int MOST_PATIENCE = 240;
    private static final int MOST_MONEY = 9999;
    private static final int MOST_LOUDNESS = 20;
    private static final int MOST_ORDER = 4;
    private static final int MOST_DEPTH = 20;
    private static final int MOST_SECONDS = 240;
    private static final int MOST_TIME = 9999;
    private static final int MOST_UNDO = 6;
    private static final int MOST_COMMANDS = 30;
    private static final int MOST_EXECUTED = 40;
    private static final int MOST_REPEATS = 20;
    private static final int MOST_NESTING = 2;
    private static final int FIRST_RATING = 10;
    private static final int ANGER = 3;

    private static final int OPEN = 0;
    private static final int DONE = 1;
    private static final int CANCELLED = 2;

    private static final int WRONG_TOKEN = 1;
    private static final int WRONG_NUMBER = 2;
    private static final int NAME_TAKEN = 3;
    private static final int NESTED_TOO_DEEP = 3;
    private static final int NAME_UNKNOWN = 4;
    private static final int TOO_MANY = 5;
    private static final int IMPOSSIBLE = 6;

    private static final Verb[] VERBS = Verb.values();

    private final Text input;
    private final Description description;
    private final Script script;
    private final Market market;
    private final Market draft;
    private final Market saved;
    private final History history;
    private final StringBuilder output;
    private boolean hasSaved;

    public EchoMarket() {
        input = new Text();
        market = new Market();
        draft = new Market();
        saved = new Market();
        description = new Description();
        script = new Script();
        history = new History();
        output = new StringBuilder();
        hasSaved = false;
    }

    // ---- input

    public int feed(int a, int b, int c, int d, int e) throws IllegalStateException {
        demandState(input.length + BYTES_OF_A_FEED <= MOST_BYTES);
        input.append(a);
        input.append(b);
        input.append(c);
        input.append(d);
        input.append(e);
        return input.length;
    }

    public int truncate(int length) throws IllegalArgumentException {
        demandArgument(isWithin(length, 0, input.length));
        input.length = length;
        return length;
    }

    public int readText() throws IllegalArgumentException {
        boolean valid = description.read(input, draft);
        input.length = 0;
        demandArgument(valid);
        market.copyFrom(draft);
        history.forget();
        return market.shoutTotal;
    }

    public int runScript() throws IllegalArgumentException {
        boolean valid = script.read(input, market);
        input.length = 0;
        demandArgument(valid);
        history.remember(market);
        return script.execute(market);
    }

    public int errorCode() {
        return input.code;
    }

    public int errorOffset() {
        return input.offset;
    }

    // ---- totals since the market was created or described

    public int valleyCount() {
        return market.valleyTotal;
    }

    public int customerCount() {
        return market.customerTotal;
    }

    public int shoutCount() {
        return market.shoutTotal;
    }

    public int time() {
        return market.now;
    }

    public int earned() {
        return market.earnings;
    }

    public int refunded() {
        return market.refunds;
    }

    public int held() {
        return market.holdings;
    }

    public int wellDepth() {
        return market.depth;
    }

    public int openShouts() {
        return market.openInAll();
    }

    // ---- valleys

    public int valleyByte(int valley, int index) throws IndexOutOfBoundsException {
        return letterOf(valleyAt(valley).name, index);
    }

    public int findValley() {
        return market.valleyNamed(input.wholeName());
    }

    public int width(int valley) throws IndexOutOfBoundsException {
        return valleyAt(valley).width;
    }

    public int walls(int valley) throws IndexOutOfBoundsException {
        return valleyAt(valley).walls;
    }

    public int price(int valley) throws IndexOutOfBoundsException {
        return valleyAt(valley).price;
    }

    public int rating(int valley) throws IndexOutOfBoundsException {
        return valleyAt(valley).rating;
    }

    public int echoesLost(int valley) throws IndexOutOfBoundsException {
        return valleyAt(valley).lost;
    }

    public int earnedIn(int valley) throws IndexOutOfBoundsException {
        return valleyAt(valley).earnings;
    }

    public int bestValley() {
        return market.valleyRatedBest();
    }

    public int valleyByName(int rank) {
        return market.valleyRanked(rank);
    }

    // ---- customers

    public int findCustomer() {
        return market.customerNamed(input.wholeName());
    }

    public int money(int customer) throws IndexOutOfBoundsException {
        return customerAt(customer).money;
    }

    public int patience(int customer) throws IndexOutOfBoundsException {
        return customerAt(customer).patience;
    }

    public int suspicion(int customer) throws IndexOutOfBoundsException {
        return customerAt(customer).suspicion;
    }

    public boolean isAngry(int customer) throws IndexOutOfBoundsException {
        return customerAt(customer).hasAnger();
    }

    public int echoesHeard(int customer) throws IndexOutOfBoundsException {
        return customerAt(customer).heard;
    }

    public int heldFor(int customer) throws IndexOutOfBoundsException {
        return customerAt(customer).holdings;
    }

    public int angryCustomers() {
        return market.angerMask();
    }

    public int bestCustomer() {
        return market.customerHearingMost();
    }

    // ---- shouts

    public int shoutCustomer(int shout) throws IndexOutOfBoundsException {
        return shoutAt(shout).customer;
    }

    public int shoutValley(int shout) throws IndexOutOfBoundsException {
        return shoutAt(shout).valley;
    }

    public int shoutState(int shout) throws IndexOutOfBoundsException {
        return shoutAt(shout).state;
    }

    public int returns(int shout) throws IndexOutOfBoundsException {
        return shoutAt(shout).returned;
    }

    public int receipt(int shout) throws IndexOutOfBoundsException {
        return shoutAt(shout).earnings();
    }

    public int nextReturn(int shout) throws IndexOutOfBoundsException {
        Shout asked = shoutAt(shout);
        return asked.isOpen() ? asked.secondOfNext() : NONE;
    }

    public int patienceEnds(int shout) throws IndexOutOfBoundsException {
        return shoutAt(shout).patienceEnd;
    }

    // ---- explanations

    public int refusal(int customer, int valley, int order)
            throws IndexOutOfBoundsException, IllegalArgumentException {
        demandIndex(market.hasCustomer(customer) && market.hasValley(valley));
        demandArgument(isWithin(order, 1, MOST_ORDER));
        return market.whyRefused(customer, valley, order);
    }

    public int neededLoudness(int valley, int order) throws IndexOutOfBoundsException, IllegalArgumentException {
        Valley asked = valleyAt(valley);
        demandArgument(isWithin(order, 1, MOST_ORDER));
        return order > asked.walls ? NONE : asked.loudnessNeeded(order);
    }

    public int bestOffer(int customer, int order) throws IndexOutOfBoundsException, IllegalArgumentException {
        demandIndex(market.hasCustomer(customer));
        demandArgument(isWithin(order, 1, MOST_ORDER));
        return market.valleyToBuyIn(customer, order);
    }

    // ---- predictions, which assume that only seconds pass

    public int nextEvent() {
        return market.secondOfNextEvent();
    }

    public int earnedAfter(int seconds) throws IllegalArgumentException {
        demandArgument(isWithin(seconds, 0, MOST_SECONDS));
        return market.earningsUntil(market.now + seconds);
    }

    public int finalState(int shout) throws IndexOutOfBoundsException {
        return shoutAt(shout).stateInTheEnd();
    }

    // ---- checks and measures

    public int violations() {
        return market.brokenInvariants();
    }

    public double meanRating() {
        int valleys = market.valleyTotal;
        return valleys == 0 ? 0.0 : (double) market.ratingsInAll() / (double) valleys;
    }

    public float heardFraction() {
        int returned = market.heard + market.lost;
        return returned == 0 ? 0.0f : (float) market.heard / (float) returned;
    }

    // ---- changes, all undoable

    public int addValley(int width, int walls, int price) throws IllegalArgumentException, IllegalStateException {
        long name = input.wholeName();
        demandArgument(isWithin(width, 1, MOST_WIDTH));
        demandArgument(isWithin(walls, 1, MOST_WALLS));
        demandArgument(isWithin(price, 1, MOST_PRICE));
        demandState(name != 0 && market.valleyNamed(name) == NONE && market.valleyTotal < MOST_VALLEYS);
        history.remember(market);
        input.length = 0;
        return market.openValley(name, width, walls, price);
    }

    public int addCustomer(int patience, int money) throws IllegalArgumentException, IllegalStateException {
        long name = input.wholeName();
        demandArgument(isWithin(patience, 1, MOST_PATIENCE));
        demandArgument(isWithin(money, 0, MOST_MONEY));
        demandState(name != 0 && market.customerNamed(name) == NONE && market.customerTotal < MOST_CUSTOMERS);
        history.remember(market);
        input.length = 0;
        return market.welcome(name, patience, money);
    }

    public int shout(int customer, int valley, int loudness, int order)
            throws IndexOutOfBoundsException, IllegalArgumentException, IllegalStateException {
        demand(market.faultOfSale(customer, valley, loudness, order));
        history.remember(market);
        return market.sell(customer, valley, loudness, order);
    }

    public int cancel(int shout) throws IndexOutOfBoundsException, IllegalStateException {
        demand(market.faultOfOpen(shout));
        history.remember(market);
        return market.callOff(shout);
    }

    public int fake(int shout) throws IndexOutOfBoundsException, IllegalStateException {
        demand(market.faultOfOpen(shout));
        history.remember(market);
        return market.fakeNext(shout);
    }

    public int setFog(int valley, int fog) throws IndexOutOfBoundsException, IllegalArgumentException {
        demand(market.faultOfFog(valley, fog));
        history.remember(market);
        return market.changeFog(valley, fog);
    }

    public int setPrice(int valley, int price) throws IndexOutOfBoundsException, IllegalArgumentException {
        demand(market.faultOfPrice(valley, price));
        history.remember(market);
        return market.changePrice(valley, price);
    }

    public int setWell(int depth) throws IllegalArgumentException {
        demand(market.faultOfDepth(depth));
        history.remember(market);
        return market.changeDepth(depth);
    }

    public int pass(int seconds) throws IllegalArgumentException, IllegalStateException {
        demand(market.faultOfPassing(seconds));
        history.remember(market);
        return market.letPass(seconds);
    }

    // ---- undo, output, saved state

    public int undo() throws IllegalStateException {
        demandState(history.count > 0);
        return history.takeBack(market);
    }

    public int printReceipt(int shout) throws IndexOutOfBoundsException {
        Shout asked = shoutAt(shout);
        output.setLength(0);
        printName(customerAt(asked.customer).name);
        output.append('@');
        printName(valleyAt(asked.valley).name);
        output.append(' ');
        for (int wall = 1; wall <= asked.order; wall++) {
            output.append(asked.signOfEcho(wall));
        }
        output.append(' ');
        output.append(asked.earnings());
        output.append('\n');
        return output.length();
    }

    public int outputByte(int index) throws IndexOutOfBoundsException {
        demandIndex(isWithin(index, 0, output.length() - 1));
        return output.charAt(index);
    }

    public int saveState() {
        saved.copyFrom(market);
        hasSaved = true;
        return market.now;
    }

    public int restoreState() throws IllegalStateException {
        demandState(hasSaved);
        market.copyFrom(saved);
        history.forget();
        return market.now;
    }

    // ---- help for the calls above

    private Valley valleyAt(int valley) {
        demandIndex(market.hasValley(valley));
        return market.valleys[valley];
    }

    private Customer customerAt(int customer) {
        demandIndex(market.hasCustomer(customer));
        return market.customers[customer];
    }

    private Shout shoutAt(int shout) {
        demandIndex(market.hasShout(shout));
        return market.shouts[shout];
    }

    private void printName(long name) {
        for (int index = 0; index < MOST_LETTERS; index++) {
            int letter = letterOf(name, index);
            if (letter != NONE) {
                output.append((char) letter);
            }
        }
    }

    private static void demand(Fault fault) {
        demandIndex(fault != Fault.INDEX);
        demandArgument(fault != Fault.ARGUMENT);
        demandState(fault != Fault.STATE);
    }

    private static void demandIndex(boolean holds) {
        if (!holds) {
            throw new IndexOutOfBoundsException("there is nothing with this number");
        }
    }

    private static void demandArgument(boolean holds) {
        if (!holds) {
            throw new IllegalArgumentException("an argument is out of range or the text has an error");
        }
    }

    private static void demandState(boolean holds) {
        if (!holds) {
            throw new IllegalStateException("the market is in no state for this call");
        }
    }

    private static boolean isWithin(int value, int least, int most) {
        return value >= least && value <= most;
    }

    private static boolean isLetter(int sign) {
        return sign >= 'a' && sign <= 'z';
    }

    private static boolean isDigit(int sign) {
        return sign >= '0' && sign <= '9';
    }

    /** The letter of a packed name at an index, NONE behind its last letter. */
    private static int letterOf(long name, int index) {
        if (!isWithin(index, 0, MOST_LETTERS - 1)) {
            return NONE;
        }
        int letter = (int) (name >>> (8 * (MOST_LETTERS - 1 - index))) & 255;
        return letter == 0 ? NONE : letter;
    }

    /** What keeps a call from taking effect. */
    private enum Fault { NOTHING, INDEX, ARGUMENT, STATE }

    /** The words with which texts, statements and commands begin. */
    private enum Verb {
        NO_VERB("", false, false),
        MARKET("market", false, false),
        VALLEY("valley", true, false),
        CUSTOMER("customer", true, false),
        SHOUT("shout", true, true),
        FOG("fog", true, true),
        PRICE("price", true, true),
        WELL("well", true, true),
        PASS("pass", true, true),
        FAKE("fake", true, true),
        CANCEL("cancel", false, true),
        REPEAT("repeat", false, true);

        final String letters;
        final boolean inDescriptions;
        final boolean inScripts;

        Verb(String letters, boolean inDescriptions, boolean inScripts) {
            this.letters = letters;
            this.inDescriptions = inDescriptions;
            this.inScripts = inScripts;
        }

        boolean isSpelled(long word) {
            boolean same = letterOf(word, letters.length()) == NONE;
            for (int i = 0; i < letters.length(); i++) {
                same = same && letterOf(word, i) == letters.charAt(i);
            }
            return same;
        }
    }

    /** The input buffer, its tokens, and the first error, which ends their reading. */
    private static final class Text {
        static final int END = 0;
        static final int WORD = 1;
        static final int NUMBER = 2;
        static final int SIGN = 3;
        static final int NO_TOKEN = 4;

        private final byte[] bytes = new byte[MOST_BYTES];
        private final int[] kinds = new int[MOST_BYTES + 1];
        private final int[] starts = new int[MOST_BYTES + 1];
        private final long[] values = new long[MOST_BYTES + 1];
        private int last;
        private int at;
        int length;
        int code;
        int offset = NONE;

        void append(int fourBytes) {
            for (int shift = 24; shift >= 0 && length < MOST_BYTES; shift -= 8) {
                bytes[length] = (byte) (fourBytes >>> shift);
                length++;
            }
        }

        long wholeName() {
            return nameIn(0, length);
        }

        /**
         * The name that stands from one index to another, or 0 if these bytes are no name. A name is packed into
         * a long, first letter highest, so that equal names are equal numbers and the alphabet is their order.
         */
        private long nameIn(int from, int to) {
            if (!isWithin(to - from, 1, MOST_LETTERS)) {
                return 0;
            }
            long name = 0;
            for (int i = from; i < to; i++) {
                if (!isLetter(bytes[i])) {
                    return 0;
                }
                name = (name << 8) | bytes[i];
            }
            return name << 8 * (MOST_LETTERS - to + from);
        }

        // -- finding the tokens

        /** Finds all tokens and stands before the first one. */
        void open() {
            int next = behindSpaces(0);
            last = 0;
            for (int i = 0; i < MOST_BYTES && next < length; i++) {
                starts[last] = next;
                next = behindSpaces(behindToken(next));
                last++;
            }
            kinds[last] = END;
            starts[last] = length;
            at = 0;
            code = 0;
            offset = NONE;
        }

        private int behindSpaces(int from) {
            int next = from;
            while (next < length && (bytes[next] == ' ' || bytes[next] == '\n')) {
                next++;
            }
            return next;
        }

        /** Notes kind and value of the token at an index and answers the index behind it. */
        private int behindToken(int start) {
            byte first = bytes[start];
            if (isLetter(first)) {
                return behindWord(start);
            }
            if (isDigit(first)) {
                return behindNumber(start);
            }
            kinds[last] = first == ';' || first == '(' || first == ')' ? SIGN : NO_TOKEN;
            values[last] = first;
            return start + 1;
        }

        private int behindWord(int start) {
            int next = start;
            while (next < length && isLetter(bytes[next])) {
                next++;
            }
            values[last] = nameIn(start, next);
            kinds[last] = next - start > MOST_LETTERS ? NO_TOKEN : WORD;
            return next;
        }

        private int behindNumber(int start) {
            int next = start;
            long number = 0;
            while (next < length && isDigit(bytes[next])) {
                number = number * 10 + bytes[next] - '0';
                next++;
            }
            values[last] = number;
            kinds[last] = next - start > MOST_DIGITS ? NO_TOKEN : NUMBER;
            return next;
        }

        // -- looking at the current token

        boolean hasFailed() {
            return code != 0;
        }

        boolean hasMore() {
            return code == 0 && kinds[at] != END;
        }

        boolean isSign(char sign) {
            return kinds[at] == SIGN && values[at] == sign;
        }

        long word() {
            return kinds[at] == WORD ? values[at] : 0;
        }

        int number() {
            return kinds[at] == NUMBER ? (int) values[at] : NONE;
        }

        Verb verb() {
            for (Verb verb : VERBS) {
                if (kinds[at] == WORD && verb.isSpelled(values[at])) {
                    return verb;
                }
            }
            return Verb.NO_VERB;
        }

        /** Only the first error counts; of several at one token the smaller codes are asked first. */
        void failIf(boolean wrong, int errorCode) {
            if (wrong && code == 0) {
                code = errorCode;
                offset = starts[at];
            }
        }

        void expectSign(char sign) {
            failIf(!isSign(sign), WRONG_TOKEN);
        }

        void expectNumber(int least, int most) {
            failIf(kinds[at] != NUMBER, WRONG_TOKEN);
            failIf(!isWithin(number(), least, most), WRONG_NUMBER);
        }

        // -- going on to the next token, which happens only without an error

        void skip() {
            if (code == 0 && at < last) {
                at++;
            }
        }

        void takeSign(char sign) {
            expectSign(sign);
            skip();
        }

        int takeNumber(int least, int most) {
            int number = number();
            expectNumber(least, most);
            skip();
            return number;
        }

        long takeNewName(int owner) {
            long name = word();
            failIf(kinds[at] != WORD, WRONG_TOKEN);
            failIf(owner != NONE, NAME_TAKEN);
            skip();
            return name;
        }

        int takeValley(Market market) {
            int valley = market.valleyNamed(word());
            takeKnownName(valley);
            return valley;
        }

        int takeCustomer(Market market) {
            int customer = market.customerNamed(word());
            takeKnownName(customer);
            return customer;
        }

        private void takeKnownName(int owner) {
            failIf(kinds[at] != WORD, WRONG_TOKEN);
            failIf(owner == NONE, NAME_UNKNOWN);
            skip();
        }
    }

    /** A change of a market that a statement or a command asks for, with its numbers as they stand in the text. */
    private static final class Change {
        Verb verb = Verb.NO_VERB;
        long name;
        int customer;
        int valley;
        int first;
        int second;
        int third;

        /** The fault of a command in a market; names have been looked up before. */
        Fault faultIn(Market market) {
            switch (verb) {
                case SHOUT:
                    return market.faultOfSale(customer, valley, first, second);
                case FOG:
                    return market.faultOfFog(valley, first);
                case PRICE:
                    return market.faultOfPrice(valley, first);
                case WELL:
                    return market.faultOfDepth(first);
                case PASS:
                    return market.faultOfPassing(first);
                default:
                    return market.faultOfOpen(first);
            }
        }

        /** Makes the change, which has no fault in the market. */
        void applyTo(Market market) {
            switch (verb) {
                case VALLEY:
                    market.openValley(name, first, second, third);
                    break;
                case CUSTOMER:
                    market.welcome(name, first, second);
                    break;
                case SHOUT:
                    market.sell(customer, valley, first, second);
                    break;
                case FOG:
                    market.changeFog(valley, first);
                    break;
                case PRICE:
                    market.changePrice(valley, first);
                    break;
                case WELL:
                    market.changeDepth(first);
                    break;
                case PASS:
                    market.letPass(first);
                    break;
                case FAKE:
                    market.fakeNext(first);
                    break;
                default:
                    market.callOff(first);
            }
        }
    }

    /** Reads a description into a draft, so that an error leaves the market as it is. */
    private static final class Description {
        private final Change change = new Change();

        /** Whether the text has no error. */
        boolean read(Text text, Market draft) {
            draft.clear();
            text.open();
            text.failIf(text.verb() != Verb.MARKET, WRONG_TOKEN);
            text.skip();
            text.takeSign(';');
            for (int i = 0; i < MOST_BYTES && text.hasMore(); i++) {
                readStatement(text, draft);
                text.takeSign(';');
                if (!text.hasFailed()) {
                    change.applyTo(draft);
                }
            }
            return !text.hasFailed();
        }

        private void readStatement(Text text, Market draft) {
            change.verb = text.verb();
            text.failIf(!change.verb.inDescriptions, WRONG_TOKEN);
            text.failIf(change.verb == Verb.VALLEY && draft.valleyTotal >= MOST_VALLEYS, TOO_MANY);
            text.failIf(change.verb == Verb.CUSTOMER && draft.customerTotal >= MOST_CUSTOMERS, TOO_MANY);
            text.skip();
            switch (change.verb) {
                case VALLEY:
                    readValley(text, draft);
                    break;
                case CUSTOMER:
                    readCustomer(text, draft);
                    break;
                case SHOUT:
                    readShout(text, draft);
                    break;
                case FOG:
                    change.valley = text.takeValley(draft);
                    change.first = text.takeNumber(0, MOST_FOG);
                    break;
                case PRICE:
                    change.valley = text.takeValley(draft);
                    change.first = text.takeNumber(1, MOST_PRICE);
                    break;
                case WELL:
                    change.first = text.takeNumber(0, MOST_DEPTH);
                    break;
                case PASS:
                    readPass(text, draft);
                    break;
                case FAKE:
                    readFake(text, draft);
                    break;
                default:
                    break;
            }
        }

        private void readValley(Text text, Market draft) {
            change.name = text.takeNewName(draft.valleyNamed(text.word()));
            change.first = text.takeNumber(1, MOST_WIDTH);
            change.second = text.takeNumber(1, MOST_WALLS);
            change.third = text.takeNumber(1, MOST_PRICE);
        }

        private void readCustomer(Text text, Market draft) {
            change.name = text.takeNewName(draft.customerNamed(text.word()));
            change.first = text.takeNumber(1, MOST_PATIENCE);
            change.second = text.takeNumber(0, MOST_MONEY);
        }

        /** Stops before the semicolon, because a refused sale is an error of the semicolon. */
        private void readShout(Text text, Market draft) {
            change.customer = text.takeCustomer(draft);
            change.valley = text.takeValley(draft);
            change.first = text.takeNumber(1, MOST_LOUDNESS);
            change.second = text.takeNumber(1, MOST_ORDER);
            text.expectSign(';');
            if (!text.hasFailed()) {
                text.failIf(draft.whyRefused(change.customer, change.valley, change.second) != 0, IMPOSSIBLE);
            }
        }

        private void readPass(Text text, Market draft) {
            change.first = text.number();
            text.expectNumber(1, MOST_SECONDS);
            text.failIf(draft.faultOfPassing(change.first) != Fault.NOTHING, IMPOSSIBLE);
            text.skip();
        }

        private void readFake(Text text, Market draft) {
            change.first = text.number();
            text.expectNumber(0, draft.shoutTotal - 1);
            text.failIf(draft.faultOfOpen(change.first) != Fault.NOTHING, IMPOSSIBLE);
            text.skip();
        }
    }

    /** Reads a script into a plan, in which repeats are written out, and executes the plan. */
    private static final class Script {
        private final Change[] commands = new Change[MOST_COMMANDS];
        private final int[] plan = new int[MOST_EXECUTED];
        private final int[] bodyStarts = new int[MOST_NESTING];
        private final int[] repeats = new int[MOST_NESTING];
        private int commandTotal;
        private int planned;
        private int nesting;

        Script() {
            for (int i = 0; i < MOST_COMMANDS; i++) {
                commands[i] = new Change();
            }
        }

        /** Whether the text has no error. */
        boolean read(Text text, Market market) {
            commandTotal = 0;
            planned = 0;
            nesting = 0;
            text.open();
            for (int i = 0; i < MOST_BYTES && text.hasMore(); i++) {
                if (nesting > 0 && text.isSign(')')) {
                    endRepeat(text);
                } else {
                    readCommand(text, market);
                }
            }
            text.failIf(nesting > 0, WRONG_TOKEN);
            return !text.hasFailed();
        }

        private void readCommand(Text text, Market market) {
            Verb verb = text.verb();
            text.failIf(!verb.inScripts, WRONG_TOKEN);
            text.failIf(verb == Verb.REPEAT && nesting >= MOST_NESTING, NESTED_TOO_DEEP);
            text.failIf(commandTotal >= MOST_COMMANDS, TOO_MANY);
            text.skip();
            if (text.hasFailed()) {
                return;
            }
            int command = commandTotal;
            commandTotal++;
            if (verb == Verb.REPEAT) {
                beginRepeat(text);
            } else {
                commands[command].verb = verb;
                readChange(text, market, commands[command]);
                appendToPlan(command);
            }
        }

        private void beginRepeat(Text text) {
            repeats[nesting] = text.takeNumber(1, MOST_REPEATS);
            bodyStarts[nesting] = planned;
            nesting++;
            text.takeSign('(');
        }

        /** The body is planned once already, so one copy less than the number of repeats is missing. */
        private void endRepeat(Text text) {
            text.skip();
            text.takeSign(';');
            nesting--;
            int bodyEnd = planned;
            for (int repeat = 1; repeat < repeats[nesting]; repeat++) {
                for (int i = bodyStarts[nesting]; i < bodyEnd; i++) {
                    appendToPlan(plan[i]);
                }
            }
        }

        private void readChange(Text text, Market market, Change change) {
            Verb verb = change.verb;
            if (verb == Verb.SHOUT) {
                change.customer = text.takeCustomer(market);
            }
            if (verb == Verb.SHOUT || verb == Verb.FOG || verb == Verb.PRICE) {
                change.valley = text.takeValley(market);
            }
            change.first = text.takeNumber(0, MOST_NUMBER);
            if (verb == Verb.SHOUT) {
                change.second = text.takeNumber(0, MOST_NUMBER);
            }
            text.takeSign(';');
        }

        /** What would come after the last command that can be executed need not be planned. */
        private void appendToPlan(int command) {
            if (planned < MOST_EXECUTED) {
                plan[planned] = command;
                planned++;
            }
        }

        /** Executes the script that has been read and answers how many commands were executed. */
        int execute(Market market) {
            for (int i = 0; i < planned; i++) {
                Change command = commands[plan[i]];
                if (command.faultIn(market) != Fault.NOTHING) {
                    return i;
                }
                command.applyTo(market);
            }
            return planned;
        }
    }

    /** A valley. */
    private static final class Valley {
        long name;
        int width;
        int walls;
        int price;
        int fog;
        int rating;
        int earnings;
        int lost;

        void copyFrom(Valley other) {
            name = other.name;
            width = other.width;
            walls = other.walls;
            price = other.price;
            fog = other.fog;
            rating = other.rating;
            earnings = other.earnings;
            lost = other.lost;
        }

        /** The smallest loudness of a shout whose echo from a wall is heard. */
        int loudnessNeeded(int wall) {
            return 2 * wall + fog + 1;
        }
    }

    /** A customer. */
    private static final class Customer {
        long name;
        int patience;
        int firstMoney;
        int money;
        int suspicion;
        int holdings;
        int heard;

        void copyFrom(Customer other) {
            name = other.name;
            patience = other.patience;
            firstMoney = other.firstMoney;
            money = other.money;
            suspicion = other.suspicion;
            holdings = other.holdings;
            heard = other.heard;
        }

        boolean hasAnger() {
            return suspicion >= ANGER;
        }
    }

    /** A sold shout; width, price and the end of patience are those of its sale. */
    private static final class Shout {
        int customer;
        int valley;
        int loudness;
        int order;
        int price;
        int width;
        int soldAt;
        int patienceEnd;
        int state;
        int returned;
        int heardWalls;

        void copyFrom(Shout other) {
            customer = other.customer;
            valley = other.valley;
            loudness = other.loudness;
            order = other.order;
            price = other.price;
            width = other.width;
            soldAt = other.soldAt;
            patienceEnd = other.patienceEnd;
            state = other.state;
            returned = other.returned;
            heardWalls = other.heardWalls;
        }

        boolean isOpen() {
            return state == OPEN;
        }

        int cost() {
            return price * order;
        }

        int earnings() {
            return price * Integer.bitCount(heardWalls);
        }

        int amountToCome() {
            return price * (order - returned);
        }

        int secondOf(int wall) {
            return soldAt + width * wall;
        }

        int secondOfNext() {
            return secondOf(returned + 1);
        }

        int stateInTheEnd() {
            if (!isOpen()) {
                return state;
            }
            return secondOf(order) <= patienceEnd ? DONE : CANCELLED;
        }

        char signOfEcho(int wall) {
            if (wall > returned) {
                return '.';
            }
            return (heardWalls >> (wall - 1) & 1) == 1 ? 'h' : 'l';
        }
    }

    /** Everything that can be undone: valleys, customers, shouts, the time, the well and the sums. */
    private static final class Market {
        final Valley[] valleys = new Valley[MOST_VALLEYS];
        final Customer[] customers = new Customer[MOST_CUSTOMERS];
        final Shout[] shouts = new Shout[MOST_SHOUTS];
        int valleyTotal;
        int customerTotal;
        int shoutTotal;
        int now;
        int depth;
        int earnings;
        int refunds;
        int holdings;
        int heard;
        int lost;

        Market() {
            for (int i = 0; i < MOST_VALLEYS; i++) {
                valleys[i] = new Valley();
            }
            for (int i = 0; i < MOST_CUSTOMERS; i++) {
                customers[i] = new Customer();
            }
            for (int i = 0; i < MOST_SHOUTS; i++) {
                shouts[i] = new Shout();
            }
        }

        void clear() {
            valleyTotal = 0;
            customerTotal = 0;
            shoutTotal = 0;
            now = 0;
            depth = 0;
            earnings = 0;
            refunds = 0;
            holdings = 0;
            heard = 0;
            lost = 0;
        }

        void copyFrom(Market other) {
            valleyTotal = other.valleyTotal;
            customerTotal = other.customerTotal;
            shoutTotal = other.shoutTotal;
            now = other.now;
            depth = other.depth;
            earnings = other.earnings;
            refunds = other.refunds;
            holdings = other.holdings;
            heard = other.heard;
            lost = other.lost;
            for (int i = 0; i < valleyTotal; i++) {
                valleys[i].copyFrom(other.valleys[i]);
            }
            for (int i = 0; i < customerTotal; i++) {
                customers[i].copyFrom(other.customers[i]);
            }
            for (int i = 0; i < shoutTotal; i++) {
                shouts[i].copyFrom(other.shouts[i]);
            }
        }

        boolean hasValley(int valley) {
            return isWithin(valley, 0, valleyTotal - 1);
        }

        boolean hasCustomer(int customer) {
            return isWithin(customer, 0, customerTotal - 1);
        }

        boolean hasShout(int shout) {
            return isWithin(shout, 0, shoutTotal - 1);
        }

        // -- sums

        int openInAll() {
            int count = 0;
            for (int i = 0; i < shoutTotal; i++) {
                count += shouts[i].isOpen() ? 1 : 0;
            }
            return count;
        }

        int ratingsInAll() {
            int sum = 0;
            for (int i = 0; i < valleyTotal; i++) {
                sum += valleys[i].rating;
            }
            return sum;
        }

        int angerMask() {
            int mask = 0;
            for (int i = 0; i < customerTotal; i++) {
                mask |= customers[i].hasAnger() ? 1 << i : 0;
            }
            return mask;
        }

        int brokenInvariants() {
            int costs = 0;
            int tooFewReturns = 0;
            for (int i = 0; i < shoutTotal; i++) {
                Shout shout = shouts[i];
                costs += shout.cost();
                tooFewReturns += shout.state == DONE && shout.returned < shout.order ? 1 : 0;
            }
            int brought = 0;
            int kept = 0;
            for (int i = 0; i < customerTotal; i++) {
                brought += customers[i].firstMoney;
                kept += customers[i].money;
            }
            int owned = earnings + holdings;
            return Math.abs(costs - owned - refunds) + Math.abs(brought - kept - owned) + tooFewReturns;
        }

        // -- searches

        int valleyNamed(long name) {
            for (int i = 0; i < valleyTotal; i++) {
                if (valleys[i].name == name) {
                    return i;
                }
            }
            return NONE;
        }

        int customerNamed(long name) {
            for (int i = 0; i < customerTotal; i++) {
                if (customers[i].name == name) {
                    return i;
                }
            }
            return NONE;
        }

        int valleyRanked(int rank) {
            for (int i = 0; i < valleyTotal; i++) {
                if (namesBefore(valleys[i].name) == rank) {
                    return i;
                }
            }
            return NONE;
        }

        private int namesBefore(long name) {
            int count = 0;
            for (int i = 0; i < valleyTotal; i++) {
                count += valleys[i].name < name ? 1 : 0;
            }
            return count;
        }

        int valleyRatedBest() {
            int best = NONE;
            for (int i = 0; i < valleyTotal; i++) {
                if (best == NONE || isRatedBetter(valleys[i], valleys[best])) {
                    best = i;
                }
            }
            return best;
        }

        private static boolean isRatedBetter(Valley one, Valley other) {
            return one.rating > other.rating || one.rating == other.rating && one.price < other.price;
        }

        int valleyToBuyIn(int customer, int order) {
            int best = NONE;
            for (int i = 0; i < valleyTotal; i++) {
                boolean inTime = valleys[i].width * order <= customers[customer].patience;
                if (inTime && whyRefused(customer, i, order) == 0
                        && (best == NONE || isOfferedBetter(valleys[i], valleys[best]))) {
                    best = i;
                }
            }
            return best;
        }

        private static boolean isOfferedBetter(Valley one, Valley other) {
            return one.price < other.price || one.price == other.price && one.rating > other.rating;
        }

        int customerHearingMost() {
            int best = NONE;
            for (int i = 0; i < customerTotal; i++) {
                if (best == NONE || customers[i].heard > customers[best].heard) {
                    best = i;
                }
            }
            return best;
        }

        // -- the calendar

        int secondOfNextEvent() {
            int next = NONE;
            for (int i = 0; i < shoutTotal; i++) {
                Shout shout = shouts[i];
                int second = Math.min(shout.secondOfNext(), shout.patienceEnd);
                if (shout.isOpen() && (next == NONE || second < next)) {
                    next = second;
                }
            }
            return next;
        }

        int earningsUntil(int second) {
            int sum = earnings;
            for (int i = 0; i < shoutTotal; i++) {
                sum += shouts[i].isOpen() ? earningsToCome(shouts[i], second) : 0;
            }
            return sum;
        }

        private int earningsToCome(Shout shout, int second) {
            int end = Math.min(second, shout.patienceEnd);
            int sum = 0;
            for (int wall = shout.returned + 1; wall <= shout.order; wall++) {
                boolean comes = shout.secondOf(wall) <= end;
                sum += comes && isHeardFrom(shout, wall) ? shout.price : 0;
            }
            return sum;
        }

        private boolean isHeardFrom(Shout shout, int wall) {
            return shout.loudness >= valleys[shout.valley].loudnessNeeded(wall);
        }

        /** Goes from event to event, because nothing happens in the seconds between; answers the returns. */
        int letPass(int seconds) {
            int end = now + seconds;
            int count = 0;
            for (int i = 0; i < seconds && now < end; i++) {
                int event = secondOfNextEvent();
                if (event == NONE || event > end) {
                    now = end;
                } else {
                    now = event;
                    count += returnDueEchoes();
                    losePatience();
                }
            }
            return count;
        }

        private int returnDueEchoes() {
            int count = 0;
            for (int i = 0; i < shoutTotal; i++) {
                Shout shout = shouts[i];
                if (shout.isOpen() && shout.secondOfNext() == now) {
                    echo(shout, isHeardFrom(shout, shout.returned + 1));
                    count++;
                }
            }
            return count;
        }

        private void losePatience() {
            for (int i = 0; i < shoutTotal; i++) {
                if (shouts[i].isOpen() && shouts[i].patienceEnd == now) {
                    callOff(i);
                }
            }
        }

        /** Lets the next echo of an open shout return. */
        private void echo(Shout shout, boolean isHeard) {
            if (isHeard) {
                earn(shout);
            } else {
                refund(shout, shout.price);
                Valley valley = valleys[shout.valley];
                valley.rating = Math.max(0, valley.rating - 2);
                valley.lost++;
                lost++;
            }
            shout.returned++;
            if (shout.returned == shout.order) {
                shout.state = DONE;
            }
        }

        private void earn(Shout shout) {
            Valley valley = valleys[shout.valley];
            Customer customer = customers[shout.customer];
            shout.heardWalls |= 1 << shout.returned;
            valley.rating++;
            valley.earnings += shout.price;
            earnings += shout.price;
            customer.holdings -= shout.price;
            holdings -= shout.price;
            customer.heard++;
            heard++;
        }

        private void refund(Shout shout, int amount) {
            Customer customer = customers[shout.customer];
            customer.holdings -= amount;
            holdings -= amount;
            customer.money += amount;
            refunds += amount;
        }

        // -- what keeps changes from taking effect

        int whyRefused(int customer, int valley, int order) {
            if (shoutTotal >= MOST_SHOUTS) {
                return 1;
            }
            if (order > valleys[valley].walls) {
                return 2;
            }
            if (customers[customer].money < valleys[valley].price * order) {
                return 3;
            }
            if (hasOpenShout(customer, valley)) {
                return 4;
            }
            return customers[customer].hasAnger() ? 5 : 0;
        }

        private boolean hasOpenShout(int customer, int valley) {
            boolean found = false;
            for (int i = 0; i < shoutTotal; i++) {
                Shout shout = shouts[i];
                found = found || shout.isOpen() && shout.customer == customer && shout.valley == valley;
            }
            return found;
        }

        Fault faultOfSale(int customer, int valley, int loudness, int order) {
            if (!hasCustomer(customer) || !hasValley(valley)) {
                return Fault.INDEX;
            }
            if (!isWithin(loudness, 1, MOST_LOUDNESS) || !isWithin(order, 1, MOST_ORDER)) {
                return Fault.ARGUMENT;
            }
            return whyRefused(customer, valley, order) == 0 ? Fault.NOTHING : Fault.STATE;
        }

        Fault faultOfOpen(int shout) {
            if (!hasShout(shout)) {
                return Fault.INDEX;
            }
            return shouts[shout].isOpen() ? Fault.NOTHING : Fault.STATE;
        }

        Fault faultOfFog(int valley, int fog) {
            if (!hasValley(valley)) {
                return Fault.INDEX;
            }
            return isWithin(fog, 0, MOST_FOG) ? Fault.NOTHING : Fault.ARGUMENT;
        }

        Fault faultOfPrice(int valley, int price) {
            if (!hasValley(valley)) {
                return Fault.INDEX;
            }
            return isWithin(price, 1, MOST_PRICE) ? Fault.NOTHING : Fault.ARGUMENT;
        }

        Fault faultOfDepth(int newDepth) {
            return isWithin(newDepth, 0, MOST_DEPTH) ? Fault.NOTHING : Fault.ARGUMENT;
        }

        Fault faultOfPassing(int seconds) {
            if (!isWithin(seconds, 1, MOST_SECONDS)) {
                return Fault.ARGUMENT;
            }
            return now + seconds <= MOST_TIME ? Fault.NOTHING : Fault.STATE;
        }

        // -- changes, made only where there is no fault

        int openValley(long name, int width, int walls, int price) {
            Valley valley = valleys[valleyTotal];
            valley.name = name;
            valley.width = width;
            valley.walls = walls;
            valley.price = price;
            valley.fog = 0;
            valley.rating = FIRST_RATING;
            valley.earnings = 0;
            valley.lost = 0;
            valleyTotal++;
            return valleyTotal - 1;
        }

        int welcome(long name, int patience, int money) {
            Customer customer = customers[customerTotal];
            customer.name = name;
            customer.patience = patience;
            customer.firstMoney = money;
            customer.money = money;
            customer.suspicion = 0;
            customer.holdings = 0;
            customer.heard = 0;
            customerTotal++;
            return customerTotal - 1;
        }

        int sell(int customer, int valley, int loudness, int order) {
            Customer buyer = customers[customer];
            Shout shout = shouts[shoutTotal];
            shout.customer = customer;
            shout.valley = valley;
            shout.loudness = loudness;
            shout.order = order;
            shout.price = valleys[valley].price;
            shout.width = valleys[valley].width;
            shout.soldAt = now;
            shout.patienceEnd = now + buyer.patience;
            shout.state = OPEN;
            shout.returned = 0;
            shout.heardWalls = 0;
            buyer.money -= shout.cost();
            buyer.holdings += shout.cost();
            holdings += shout.cost();
            shoutTotal++;
            return shoutTotal - 1;
        }

        int callOff(int number) {
            Shout shout = shouts[number];
            int amount = shout.amountToCome();
            shout.state = CANCELLED;
            refund(shout, amount);
            return amount;
        }

        int fakeNext(int number) {
            Shout shout = shouts[number];
            Customer customer = customers[shout.customer];
            boolean isHeard = depth >= 1;
            echo(shout, isHeard);
            if (isHeard) {
                customer.suspicion++;
            }
            if (customer.hasAnger()) {
                callOffAll(shout.customer);
            }
            return customer.suspicion;
        }

        private void callOffAll(int customer) {
            for (int i = 0; i < shoutTotal; i++) {
                if (shouts[i].isOpen() && shouts[i].customer == customer) {
                    callOff(i);
                }
            }
        }

        int changeFog(int valley, int fog) {
            int previous = valleys[valley].fog;
            valleys[valley].fog = fog;
            return previous;
        }

        int changePrice(int valley, int price) {
            int previous = valleys[valley].price;
            valleys[valley].price = price;
            return previous;
        }

        int changeDepth(int newDepth) {
            int previous = depth;
            depth = newDepth;
            return previous;
        }
    }

    /** The markets before the latest undoable calls, as a ring of rows that are used again. */
    private static final class History {
        private final Market[] rows = new Market[MOST_UNDO];
        private int free;
        int count;

        History() {
            for (int i = 0; i < MOST_UNDO; i++) {
                rows[i] = new Market();
            }
        }

        void remember(Market market) {
            rows[free].copyFrom(market);
            free = (free + 1) % MOST_UNDO;
            count = Math.min(count + 1, MOST_UNDO);
        }

        /** Undoes the latest call, if there is one, and answers how many are left. */
        int takeBack(Market market) {
            if (count > 0) {
                free = (free + MOST_UNDO - 1) % MOST_UNDO;
                market.copyFrom(rows[free]);
                count--;
            }
            return count;
        }

        void forget() {
            count = 0;
        }
    }
}
