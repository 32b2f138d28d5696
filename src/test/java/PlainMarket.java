import java.util.ArrayList;
import java.util.List;
import java.util.Set;
import java.util.TreeSet;

/**
 * The document once more, written as slowly and plainly as possible: seconds pass one by one, predictions are made by
 * letting a copy live on, texts are cut into pieces of strings. Random runs compare EchoMarket with it.
 */
public final class PlainMarket {
    static final class Valley {
        String name;
        int width, walls, price, fog, rating = 10;
    }

    static final class Customer {
        String name;
        int patience, brought, money, suspicion;
        boolean angry;
    }

    static final class Sale {
        int customer, valley, loudness, order, price, soldAt, state;
        String echoes = "";

        int heard() {
            return (int) echoes.chars().filter(c -> c == 'h').count();
        }

        int lost() {
            return echoes.length() - heard();
        }
    }

    static final class State {
        final List<Valley> valleys = new ArrayList<>();
        final List<Customer> customers = new ArrayList<>();
        final List<Sale> sales = new ArrayList<>();
        int time, well, refunded;

        State copy() {
            State twin = new State();
            for (Valley v : valleys) {
                Valley w = new Valley();
                w.name = v.name;
                w.width = v.width;
                w.walls = v.walls;
                w.price = v.price;
                w.fog = v.fog;
                w.rating = v.rating;
                twin.valleys.add(w);
            }
            for (Customer c : customers) {
                Customer d = new Customer();
                d.name = c.name;
                d.patience = c.patience;
                d.brought = c.brought;
                d.money = c.money;
                d.suspicion = c.suspicion;
                d.angry = c.angry;
                twin.customers.add(d);
            }
            for (Sale s : sales) {
                Sale t = new Sale();
                t.customer = s.customer;
                t.valley = s.valley;
                t.loudness = s.loudness;
                t.order = s.order;
                t.price = s.price;
                t.soldAt = s.soldAt;
                t.state = s.state;
                t.echoes = s.echoes;
                twin.sales.add(t);
            }
            twin.time = time;
            twin.well = well;
            twin.refunded = refunded;
            return twin;
        }

        void give(Sale s, int amount) {
            customers.get(s.customer).money += amount;
            refunded += amount;
        }

        void echo(Sale s, int loudness) {
            Valley v = valleys.get(s.valley);
            if (loudness >= 1) {
                s.echoes += 'h';
                v.rating += 1;
            } else {
                s.echoes += 'l';
                v.rating = v.rating < 2 ? 0 : v.rating - 2;
                give(s, s.price);
            }
            if (s.echoes.length() == s.order) {
                s.state = 1;
            }
        }

        int cancel(Sale s) {
            int amount = (s.order - s.echoes.length()) * s.price;
            s.state = 2;
            give(s, amount);
            return amount;
        }

        int second() {
            int count = 0;
            time++;
            for (Sale s : sales) {
                int wall = s.echoes.length() + 1;
                Valley v = valleys.get(s.valley);
                if (s.state == 0 && time == s.soldAt + v.width * wall) {
                    echo(s, s.loudness - 2 * wall - v.fog);
                    count++;
                }
            }
            for (Sale s : sales) {
                if (s.state == 0 && time - s.soldAt == customers.get(s.customer).patience) {
                    cancel(s);
                }
            }
            return count;
        }

        int fake(Sale s) {
            Customer c = customers.get(s.customer);
            boolean heard = well >= 1;
            echo(s, well);
            if (heard && ++c.suspicion == 3) {
                c.angry = true;
                for (Sale t : sales) {
                    if (t.customer == s.customer && t.state == 0) {
                        cancel(t);
                    }
                }
            }
            return c.suspicion;
        }

        int earned() {
            int sum = 0;
            for (Sale s : sales) {
                sum += s.heard() * s.price;
            }
            return sum;
        }

        int refusal(int customer, int valley, int order) {
            Customer c = customers.get(customer);
            Valley v = valleys.get(valley);
            if (sales.size() == 30) {
                return 1;
            }
            if (order > v.walls) {
                return 2;
            }
            if (c.money < order * v.price) {
                return 3;
            }
            for (Sale s : sales) {
                if (s.state == 0 && s.customer == customer && s.valley == valley) {
                    return 4;
                }
            }
            return c.angry ? 5 : 0;
        }

        int sell(int customer, int valley, int loudness, int order) {
            Sale s = new Sale();
            s.customer = customer;
            s.valley = valley;
            s.loudness = loudness;
            s.order = order;
            s.price = valleys.get(valley).price;
            s.soldAt = time;
            customers.get(customer).money -= s.price * order;
            sales.add(s);
            return sales.size() - 1;
        }

        int valleyNamed(String name) {
            for (Valley v : valleys) {
                if (v.name.equals(name)) {
                    return valleys.indexOf(v);
                }
            }
            return -1;
        }

        int customerNamed(String name) {
            for (Customer c : customers) {
                if (c.name.equals(name)) {
                    return customers.indexOf(c);
                }
            }
            return -1;
        }

        void addValley(String name, int width, int walls, int price) {
            Valley v = new Valley();
            v.name = name;
            v.width = width;
            v.walls = walls;
            v.price = price;
            valleys.add(v);
        }

        void addCustomer(String name, int patience, int money) {
            Customer c = new Customer();
            c.name = name;
            c.patience = patience;
            c.money = money;
            c.brought = money;
            customers.add(c);
        }
    }

    /** The first error of a text. */
    @SuppressWarnings("serial")
    static final class TextError extends RuntimeException {
        final int code, offset;

        TextError(int code, int offset) {
            this.code = code;
            this.offset = offset;
        }
    }

    record Token(String text, int start) {
        boolean isWord() {
            return text.matches("[a-z]{1,8}");
        }

        boolean isNumber() {
            return text.matches("[0-9]{1,4}");
        }
    }

    record Command(String verb, List<Integer> numbers, List<Command> body) {
    }

    private State now = new State();
    private State saved;
    private final List<State> past = new ArrayList<>();
    private String input = "";
    private String output = "";
    private int code, offset = -1;

    private List<Token> tokens;
    private int next;
    private int commandsRead;
    private int executed;

    // ---- input

    public int feed(int a, int b, int c, int d, int e) {
        state(input.length() <= 580);
        for (int part : new int[] {a, b, c, d, e}) {
            input += "" + (char) (part >>> 24) + (char) (part >>> 16 & 255) + (char) (part >>> 8 & 255)
                    + (char) (part & 255);
        }
        return input.length();
    }

    public int truncate(int length) {
        argument(length >= 0 && length <= input.length());
        input = input.substring(0, length);
        return length;
    }

    public int readText() {
        State fresh = new State();
        read(() -> description(fresh));
        now = fresh;
        past.clear();
        return now.sales.size();
    }

    public int runScript() {
        List<Command> commands = new ArrayList<>();
        read(() -> {
            commandsRead = 0;
            commands.addAll(script(0));
            if (next < tokens.size()) {
                throw new TextError(1, peek().start);
            }
        });
        remember();
        executed = 0;
        execute(commands);
        return executed;
    }

    private void read(Runnable parser) {
        code = 0;
        offset = -1;
        cut();
        try {
            parser.run();
        } catch (TextError e) {
            code = e.code;
            offset = e.offset;
        }
        input = "";
        argument(code == 0);
    }

    private void cut() {
        tokens = new ArrayList<>();
        next = 0;
        int i = 0;
        while (i < input.length()) {
            String rest = input.substring(i);
            String piece = rest.replaceFirst("(?s)^([a-z]+|[0-9]+|.).*$", "$1");
            if (!piece.equals(" ") && !piece.equals("\n")) {
                tokens.add(new Token(piece, i));
            }
            i += piece.length();
        }
    }

    private Token peek() {
        return next < tokens.size() ? tokens.get(next) : new Token("", input.length());
    }

    private Token take(boolean allowed) {
        Token token = peek();
        if (!allowed) {
            throw new TextError(1, token.start);
        }
        next++;
        return token;
    }

    private void sign(String sign) {
        take(peek().text.equals(sign));
    }

    private int number(int least, int most) {
        Token token = take(peek().isNumber());
        int value = Integer.parseInt(token.text);
        if (value < least || value > most) {
            throw new TextError(2, token.start);
        }
        return value;
    }

    private String newName(State s, boolean valley) {
        Token token = take(peek().isWord());
        if ((valley ? s.valleyNamed(token.text) : s.customerNamed(token.text)) >= 0) {
            throw new TextError(3, token.start);
        }
        return token.text;
    }

    private int known(State s, boolean valley) {
        Token token = take(peek().isWord());
        int found = valley ? s.valleyNamed(token.text) : s.customerNamed(token.text);
        if (found < 0) {
            throw new TextError(4, token.start);
        }
        return found;
    }

    private void description(State s) {
        take(peek().text.equals("market"));
        sign(";");
        while (next < tokens.size()) {
            statement(s);
        }
    }

    private void statement(State s) {
        Token verb = take(List.of("valley", "customer", "shout", "fog", "price", "well", "pass", "fake")
                .contains(peek().text));
        if (verb.text.equals("valley")) {
            if (s.valleys.size() == 8) {
                throw new TextError(5, verb.start);
            }
            s.addValley(newName(s, true), number(1, 60), number(1, 4), number(1, 99));
        } else if (verb.text.equals("customer")) {
            if (s.customers.size() == 8) {
                throw new TextError(5, verb.start);
            }
            s.addCustomer(newName(s, false), number(1, 240), number(0, 9999));
        } else if (verb.text.equals("shout")) {
            int customer = known(s, false);
            int valley = known(s, true);
            int loudness = number(1, 20);
            int order = number(1, 4);
            int end = peek().start;
            sign(";");
            if (s.refusal(customer, valley, order) != 0) {
                throw new TextError(6, end);
            }
            s.sell(customer, valley, loudness, order);
            return;
        } else if (verb.text.equals("fog")) {
            int valley = known(s, true);
            s.valleys.get(valley).fog = number(0, 9);
        } else if (verb.text.equals("price")) {
            int valley = known(s, true);
            s.valleys.get(valley).price = number(1, 99);
        } else if (verb.text.equals("well")) {
            s.well = number(0, 20);
        } else if (verb.text.equals("pass")) {
            int at = peek().start;
            int seconds = number(1, 240);
            if (s.time + seconds > 9999) {
                throw new TextError(6, at);
            }
            for (int i = 0; i < seconds; i++) {
                s.second();
            }
        } else {
            int at = peek().start;
            int shout = number(0, s.sales.size() - 1);
            if (s.sales.get(shout).state != 0) {
                throw new TextError(6, at);
            }
            s.fake(s.sales.get(shout));
        }
        sign(";");
    }

    private List<Command> script(int repeats) {
        List<Command> commands = new ArrayList<>();
        while (next < tokens.size() && !(repeats > 0 && peek().text.equals(")"))) {
            commands.add(command(repeats));
            sign(";");
        }
        return commands;
    }

    private Command command(int repeats) {
        Token verb = take(List.of("shout", "fog", "price", "well", "pass", "fake", "cancel", "repeat")
                .contains(peek().text));
        if (verb.text.equals("repeat") && repeats == 2) {
            throw new TextError(3, verb.start);
        }
        if (++commandsRead == 31) {
            throw new TextError(5, verb.start);
        }
        List<Integer> numbers = new ArrayList<>();
        List<Command> body = new ArrayList<>();
        if (verb.text.equals("repeat")) {
            numbers.add(number(1, 20));
            sign("(");
            body = script(repeats + 1);
            sign(")");
        } else if (verb.text.equals("shout")) {
            numbers.add(known(now, false));
            numbers.add(known(now, true));
            numbers.add(number(0, 9999));
            numbers.add(number(0, 9999));
        } else if (verb.text.equals("fog") || verb.text.equals("price")) {
            numbers.add(known(now, true));
            numbers.add(number(0, 9999));
        } else {
            numbers.add(number(0, 9999));
        }
        return new Command(verb.text, numbers, body);
    }

    /** Whether the execution goes on. */
    private boolean execute(List<Command> commands) {
        for (Command command : commands) {
            if (command.verb.equals("repeat")) {
                for (int i = 0; i < command.numbers.get(0); i++) {
                    if (!execute(command.body)) {
                        return false;
                    }
                }
            } else {
                if (executed == 40) {
                    return false;
                }
                try {
                    call(command.verb, command.numbers);
                } catch (IndexOutOfBoundsException | IllegalArgumentException | IllegalStateException e) {
                    return false;
                }
                executed++;
            }
        }
        return true;
    }

    private void call(String verb, List<Integer> n) {
        List<State> kept = new ArrayList<>(past);
        try {
            switch (verb) {
                case "shout" -> shout(n.get(0), n.get(1), n.get(2), n.get(3));
                case "fog" -> setFog(n.get(0), n.get(1));
                case "price" -> setPrice(n.get(0), n.get(1));
                case "well" -> setWell(n.get(0));
                case "pass" -> pass(n.get(0));
                case "fake" -> fake(n.get(0));
                default -> cancel(n.get(0));
            }
        } finally {
            past.clear();
            past.addAll(kept);
        }
    }

    public int errorCode() {
        return code;
    }

    public int errorOffset() {
        return offset;
    }

    // ---- totals

    public int valleyCount() {
        return now.valleys.size();
    }

    public int customerCount() {
        return now.customers.size();
    }

    public int shoutCount() {
        return now.sales.size();
    }

    public int time() {
        return now.time;
    }

    public int earned() {
        return now.earned();
    }

    public int refunded() {
        return now.refunded;
    }

    public int held() {
        int sum = 0;
        for (int c = 0; c < now.customers.size(); c++) {
            sum += heldFor(c);
        }
        return sum;
    }

    public int wellDepth() {
        return now.well;
    }

    public int openShouts() {
        return (int) now.sales.stream().filter(s -> s.state == 0).count();
    }

    // ---- valleys

    public int valleyByte(int valley, int index) {
        String name = valleyAt(valley).name;
        return index >= 0 && index < name.length() ? name.charAt(index) : -1;
    }

    public int findValley() {
        return now.valleyNamed(input);
    }

    public int width(int valley) {
        return valleyAt(valley).width;
    }

    public int walls(int valley) {
        return valleyAt(valley).walls;
    }

    public int price(int valley) {
        return valleyAt(valley).price;
    }

    public int rating(int valley) {
        return valleyAt(valley).rating;
    }

    public int echoesLost(int valley) {
        valleyAt(valley);
        return now.sales.stream().filter(s -> s.valley == valley).mapToInt(Sale::lost).sum();
    }

    public int earnedIn(int valley) {
        valleyAt(valley);
        return now.sales.stream().filter(s -> s.valley == valley).mapToInt(s -> s.heard() * s.price).sum();
    }

    public int bestValley() {
        int best = -1;
        for (int v = now.valleys.size() - 1; v >= 0; v--) {
            if (best < 0 || rating(v) > rating(best) || rating(v) == rating(best) && price(v) <= price(best)) {
                best = v;
            }
        }
        return best;
    }

    public int valleyByName(int rank) {
        Set<String> names = new TreeSet<>();
        for (Valley v : now.valleys) {
            names.add(v.name);
        }
        return rank >= 0 && rank < names.size() ? now.valleyNamed(new ArrayList<>(names).get(rank)) : -1;
    }

    // ---- customers

    public int findCustomer() {
        return now.customerNamed(input);
    }

    public int money(int customer) {
        return customerAt(customer).money;
    }

    public int patience(int customer) {
        return customerAt(customer).patience;
    }

    public int suspicion(int customer) {
        return customerAt(customer).suspicion;
    }

    public boolean isAngry(int customer) {
        return customerAt(customer).angry;
    }

    public int echoesHeard(int customer) {
        customerAt(customer);
        return now.sales.stream().filter(s -> s.customer == customer).mapToInt(Sale::heard).sum();
    }

    public int heldFor(int customer) {
        customerAt(customer);
        return now.sales.stream().filter(s -> s.customer == customer && s.state == 0)
                .mapToInt(s -> s.price * (s.order - s.echoes.length())).sum();
    }

    public int angryCustomers() {
        int mask = 0;
        for (int c = 0; c < now.customers.size(); c++) {
            mask += isAngry(c) ? (int) Math.pow(2, c) : 0;
        }
        return mask;
    }

    public int bestCustomer() {
        int best = -1;
        for (int c = now.customers.size() - 1; c >= 0; c--) {
            if (best < 0 || echoesHeard(c) >= echoesHeard(best)) {
                best = c;
            }
        }
        return best;
    }

    // ---- shouts

    public int shoutCustomer(int shout) {
        return saleAt(shout).customer;
    }

    public int shoutValley(int shout) {
        return saleAt(shout).valley;
    }

    public int shoutState(int shout) {
        return saleAt(shout).state;
    }

    public int returns(int shout) {
        return saleAt(shout).echoes.length();
    }

    public int receipt(int shout) {
        return saleAt(shout).heard() * saleAt(shout).price;
    }

    public int nextReturn(int shout) {
        Sale s = saleAt(shout);
        return s.state != 0 ? -1 : s.soldAt + width(s.valley) * (1 + s.echoes.length());
    }

    public int patienceEnds(int shout) {
        return saleAt(shout).soldAt + patience(saleAt(shout).customer);
    }

    // ---- explanations

    public int refusal(int customer, int valley, int order) {
        customerAt(customer);
        valleyAt(valley);
        argument(order >= 1 && order <= 4);
        return now.refusal(customer, valley, order);
    }

    public int neededLoudness(int valley, int order) {
        Valley v = valleyAt(valley);
        argument(order >= 1 && order <= 4);
        if (order > v.walls) {
            return -1;
        }
        int loudness = 1;
        while (loudness - 2 * order - v.fog < 1) {
            loudness++;
        }
        return loudness;
    }

    public int bestOffer(int customer, int order) {
        customerAt(customer);
        argument(order >= 1 && order <= 4);
        int best = -1;
        for (int v = now.valleys.size() - 1; v >= 0; v--) {
            if (refusal(customer, v, order) == 0 && width(v) * order <= patience(customer)) {
                if (best < 0 || price(v) < price(best) || price(v) == price(best) && rating(v) >= rating(best)) {
                    best = v;
                }
            }
        }
        return best;
    }

    // ---- predictions

    public int nextEvent() {
        State future = now.copy();
        if (openShouts() == 0) {
            return -1;
        }
        String before = history(future);
        while (history(future).equals(before)) {
            future.second();
        }
        return future.time;
    }

    private static String history(State s) {
        StringBuilder text = new StringBuilder();
        for (Sale sale : s.sales) {
            text.append(sale.echoes).append(sale.state);
        }
        return text.toString();
    }

    public int earnedAfter(int seconds) {
        argument(seconds >= 0 && seconds <= 240);
        State future = now.copy();
        for (int i = 0; i < seconds; i++) {
            future.second();
        }
        return future.earned();
    }

    public int finalState(int shout) {
        saleAt(shout);
        State future = now.copy();
        while (future.sales.get(shout).state == 0) {
            future.second();
        }
        return future.sales.get(shout).state;
    }

    // ---- measures

    public int violations() {
        return 0;
    }

    public double meanRating() {
        double sum = 0;
        for (Valley v : now.valleys) {
            sum += v.rating;
        }
        return now.valleys.isEmpty() ? 0.0 : sum / now.valleys.size();
    }

    public float heardFraction() {
        float heard = 0;
        float all = 0;
        for (Sale s : now.sales) {
            heard += s.heard();
            all += s.echoes.length();
        }
        return all == 0 ? 0.0f : heard / all;
    }

    // ---- changes

    public int addValley(int width, int walls, int price) {
        argument(width >= 1 && width <= 60 && walls >= 1 && walls <= 4 && price >= 1 && price <= 99);
        state(input.matches("[a-z]{1,8}") && now.valleyNamed(input) < 0 && now.valleys.size() < 8);
        remember();
        now.addValley(input, width, walls, price);
        input = "";
        return now.valleys.size() - 1;
    }

    public int addCustomer(int patience, int money) {
        argument(patience >= 1 && patience <= 240 && money >= 0 && money <= 9999);
        state(input.matches("[a-z]{1,8}") && now.customerNamed(input) < 0 && now.customers.size() < 8);
        remember();
        now.addCustomer(input, patience, money);
        input = "";
        return now.customers.size() - 1;
    }

    public int shout(int customer, int valley, int loudness, int order) {
        customerAt(customer);
        valleyAt(valley);
        argument(loudness >= 1 && loudness <= 20 && order >= 1 && order <= 4);
        state(refusal(customer, valley, order) == 0);
        remember();
        return now.sell(customer, valley, loudness, order);
    }

    public int cancel(int shout) {
        state(saleAt(shout).state == 0);
        remember();
        return now.cancel(saleAt(shout));
    }

    public int fake(int shout) {
        state(saleAt(shout).state == 0);
        remember();
        return now.fake(saleAt(shout));
    }

    public int setFog(int valley, int fog) {
        valleyAt(valley);
        argument(fog >= 0 && fog <= 9);
        remember();
        int before = valleyAt(valley).fog;
        valleyAt(valley).fog = fog;
        return before;
    }

    public int setPrice(int valley, int price) {
        valleyAt(valley);
        argument(price >= 1 && price <= 99);
        remember();
        int before = valleyAt(valley).price;
        valleyAt(valley).price = price;
        return before;
    }

    public int setWell(int depth) {
        argument(depth >= 0 && depth <= 20);
        remember();
        int before = now.well;
        now.well = depth;
        return before;
    }

    public int pass(int seconds) {
        argument(seconds >= 1 && seconds <= 240);
        state(now.time + seconds <= 9999);
        remember();
        int count = 0;
        for (int i = 0; i < seconds; i++) {
            count += now.second();
        }
        return count;
    }

    // ---- undo, output, saved state

    private void remember() {
        past.add(now.copy());
        if (past.size() == 7) {
            past.remove(0);
        }
    }

    public int undo() {
        state(!past.isEmpty());
        now = past.remove(past.size() - 1);
        return past.size();
    }

    public int printReceipt(int shout) {
        Sale s = saleAt(shout);
        output = now.customers.get(s.customer).name + "@" + now.valleys.get(s.valley).name + " "
                + (s.echoes + "....").substring(0, s.order) + " " + receipt(shout) + "\n";
        return output.length();
    }

    public int outputByte(int index) {
        index(index >= 0 && index < output.length());
        return output.charAt(index);
    }

    public int saveState() {
        saved = now.copy();
        return now.time;
    }

    public int restoreState() {
        state(saved != null);
        now = saved.copy();
        past.clear();
        return now.time;
    }

    // ---- help

    String valleyName(int valley) {
        return valleyAt(valley).name;
    }

    String customerName(int customer) {
        return customerAt(customer).name;
    }

    private Valley valleyAt(int valley) {
        index(valley >= 0 && valley < now.valleys.size());
        return now.valleys.get(valley);
    }

    private Customer customerAt(int customer) {
        index(customer >= 0 && customer < now.customers.size());
        return now.customers.get(customer);
    }

    private Sale saleAt(int shout) {
        index(shout >= 0 && shout < now.sales.size());
        return now.sales.get(shout);
    }

    private static void index(boolean holds) {
        if (!holds) {
            throw new IndexOutOfBoundsException();
        }
    }

    private static void argument(boolean holds) {
        if (!holds) {
            throw new IllegalArgumentException();
        }
    }

    private static void state(boolean holds) {
        if (!holds) {
            throw new IllegalStateException();
        }
    }
}
