import java.io.IOException;
import java.lang.reflect.Constructor;
import java.lang.reflect.Field;
import java.lang.reflect.Member;
import java.lang.reflect.Method;
import java.lang.reflect.Modifier;
import java.nio.file.Files;
import java.nio.file.Path;
import java.util.ArrayList;
import java.util.List;
import java.util.Set;
import java.util.TreeSet;
import java.util.regex.Matcher;
import java.util.regex.Pattern;

/** The public face: its constant, constructor, methods and the order of their exceptions; promise 1. */
public final class FaceTest {
    /** Result, name, number of arguments, which are all int, and exceptions in the order of the throws clause. */
    private static final String[] METHODS = {
        "int feed 5 state",
        "int truncate 1 argument",
        "int readText 0 argument",
        "int runScript 0 argument",
        "int errorCode 0",
        "int errorOffset 0",
        "int valleyCount 0",
        "int customerCount 0",
        "int shoutCount 0",
        "int time 0",
        "int earned 0",
        "int refunded 0",
        "int held 0",
        "int wellDepth 0",
        "int openShouts 0",
        "int valleyByte 2 index",
        "int findValley 0",
        "int width 1 index",
        "int walls 1 index",
        "int price 1 index",
        "int rating 1 index",
        "int echoesLost 1 index",
        "int earnedIn 1 index",
        "int bestValley 0",
        "int valleyByName 1",
        "int findCustomer 0",
        "int money 1 index",
        "int patience 1 index",
        "int suspicion 1 index",
        "boolean isAngry 1 index",
        "int echoesHeard 1 index",
        "int heldFor 1 index",
        "int angryCustomers 0",
        "int bestCustomer 0",
        "int shoutCustomer 1 index",
        "int shoutValley 1 index",
        "int shoutState 1 index",
        "int returns 1 index",
        "int receipt 1 index",
        "int nextReturn 1 index",
        "int patienceEnds 1 index",
        "int refusal 3 index argument",
        "int neededLoudness 2 index argument",
        "int bestOffer 2 index argument",
        "int nextEvent 0",
        "int earnedAfter 1 argument",
        "int finalState 1 index",
        "int violations 0",
        "double meanRating 0",
        "float heardFraction 0",
        "int addValley 3 argument state",
        "int addCustomer 2 argument state",
        "int shout 4 index argument state",
        "int cancel 1 index state",
        "int fake 1 index state",
        "int setFog 2 index argument",
        "int setPrice 2 index argument",
        "int setWell 1 argument",
        "int pass 1 argument state",
        "int undo 0 state",
        "int printReceipt 1 index",
        "int outputByte 1 index",
        "int saveState 0",
        "int restoreState 0 state"
    };

    private static final Path DOCUMENT = Path.of("../shared/DOC.md");
    private static final Pattern METHOD = Pattern.compile(
            "(?m)^    public (int|boolean|double|float) (\\w+)\\(([^)]*)\\)(?: throws ([\\w, ]+))?;$");

    public static void main(String[] args) throws ReflectiveOperationException, IOException {
        methodsOfTheDocument();
        members();
        noOtherMembers();
        newObject();
        Check.end();
    }

    /** The face as the document writes it has the methods that are written above, in the same order. */
    private static void methodsOfTheDocument() throws IOException {
        List<String> methods = new ArrayList<>();
        Matcher method = METHOD.matcher(Files.readString(DOCUMENT));
        while (method.find()) {
            int arguments = method.group(3).isEmpty() ? 0 : method.group(3).split(",").length;
            Check.due("int arguments of " + method.group(), method.group(3).split("int ", -1).length - 1, arguments);
            String exceptions = method.group(4) == null ? "" : " " + method.group(4);
            methods.add(method.group(1) + " " + method.group(2) + " " + arguments
                    + exceptions.replace(",", "").replace("IndexOutOfBoundsException", "index")
                            .replace("IllegalArgumentException", "argument").replace("IllegalStateException", "state"));
        }
        Check.due("the methods of the document", methods.toString(), List.of(METHODS).toString());
    }

    private static void members() throws ReflectiveOperationException {
        Check.terms(8, "`NONE = -1`: Result of queries that have no valley, customer, shout or number to return.");
        Check.due("NONE", EchoMarket.NONE, -1);
        Check.due("modifiers of NONE", EchoMarket.class.getField("NONE").getModifiers(),
                Modifier.PUBLIC | Modifier.STATIC | Modifier.FINAL);
        Check.due("modifiers of the class", EchoMarket.class.getModifiers(), Modifier.PUBLIC | Modifier.FINAL);
        Set<String> due = new TreeSet<>(Set.of(METHODS));
        Set<String> got = new TreeSet<>();
        for (Method method : EchoMarket.class.getDeclaredMethods()) {
            if (!Modifier.isPrivate(method.getModifiers()) && !method.isSynthetic()) {
                got.add(described(method));
                Check.due("modifiers of " + method, method.getModifiers(), Modifier.PUBLIC);
            }
        }
        Check.due("the methods", got.toString(), due.toString());
    }

    private static String described(Method method) {
        StringBuilder text = new StringBuilder();
        text.append(method.getReturnType()).append(' ').append(method.getName());
        text.append(' ').append(method.getParameterCount());
        for (Class<?> type : method.getParameterTypes()) {
            text.append(type == int.class ? "" : " argument of " + type);
        }
        for (Class<?> type : method.getExceptionTypes()) {
            text.append(' ').append(type == IndexOutOfBoundsException.class ? "index"
                    : type == IllegalArgumentException.class ? "argument"
                    : type == IllegalStateException.class ? "state" : type.getName());
        }
        return text.toString();
    }

    private static void noOtherMembers() {
        for (Field field : EchoMarket.class.getDeclaredFields()) {
            Check.due("privacy of " + field, isPrivate(field) || field.getName().equals("NONE"), true);
            boolean isStatic = Modifier.isStatic(field.getModifiers());
            Check.due("finality of " + field, !isStatic || Modifier.isFinal(field.getModifiers()), true);
        }
        Constructor<?>[] constructors = EchoMarket.class.getDeclaredConstructors();
        Check.due("number of constructors", constructors.length, 1);
        Check.due("the constructor", constructors[0].toString(), "public EchoMarket()");
        for (Class<?> inside : EchoMarket.class.getDeclaredClasses()) {
            int modifiers = inside.getModifiers();
            Check.due(inside + " is static", Modifier.isStatic(modifiers), true);
            Check.due(inside + " is public", Modifier.isPublic(modifiers) || Modifier.isProtected(modifiers), false);
        }
        Set<String> publicNames = new TreeSet<>();
        for (String method : METHODS) {
            publicNames.add(method.split(" ")[1]);
        }
        for (Method method : EchoMarket.class.getDeclaredMethods()) {
            Check.due(method + " bears the name of a public one",
                    isPrivate(method) && publicNames.contains(method.getName()), false);
        }
    }

    private static boolean isPrivate(Member member) {
        return Modifier.isPrivate(member.getModifiers()) || member.isSynthetic();
    }

    private static void newObject() throws ReflectiveOperationException {
        Check.promise(1, "Creates a market without valleys and customers, with time 0, an empty input buffer, empty "
                + "output and no saved state.");
        EchoMarket x = new EchoMarket();
        for (String method : METHODS) {
            String[] words = method.split(" ");
            boolean asksOnly = words[2].equals("0") && words.length == 3 && !words[1].equals("saveState");
            if (asksOnly && words[0].equals("int")) {
                long got = (int) EchoMarket.class.getMethod(words[1]).invoke(x);
                boolean isSearch = Set.of("errorOffset", "findValley", "bestValley", "findCustomer", "bestCustomer",
                        "nextEvent").contains(words[1]);
                Check.due("new " + words[1], got, isSearch ? -1 : 0);
            }
        }
        Check.due("new meanRating", x.meanRating(), 0.0);
        Check.due("new heardFraction", x.heardFraction(), 0.0f);
        Check.due("new input buffer", x.truncate(0), 0);
        Check.argument("new truncate(1)", () -> x.truncate(1));
        Check.index("new outputByte(0)", () -> x.outputByte(0));
        Check.state("new undo", () -> x.undo());
        Check.state("new restoreState", () -> x.restoreState());
    }
}
