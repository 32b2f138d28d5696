import java.io.IOException;
import java.lang.reflect.Field;
import java.lang.reflect.Method;
import java.lang.reflect.Modifier;
import java.nio.file.Files;
import java.nio.file.Path;
import java.util.ArrayList;
import java.util.List;
import java.util.regex.Matcher;
import java.util.regex.Pattern;

/** The rules of LANGUAGE.md as far as they can be seen without reading the class. */
public final class LanguageTest {
    private static final Path SOURCE = Path.of("src/main/java/EchoMarket.java");
    private static final int MOST_CLASSES = 12;
    private static final int MOST_FIELDS = 20;
    private static final int MOST_PARAMETERS = 7;
    private static final int MOST_LINES = 60;

    /** Words and signs that the rules leave out, as regular expressions. */
    private static final String[] BANNED = {"->", "::", "\\bimport\\b", "\\bpackage\\b", "\\bcatch\\b", "\\btry\\b",
            "\\bfinally\\b", "\\bsynchronized\\b", "\\bassert\\b", "\\bvar\\b", "\\bvolatile\\b", "\\btransient\\b",
            "\\bnative\\b", "\\bThread\\b", "\\bSystem\\.(?!arraycopy\\b)", "\\w+Exact\\b", "\\bRandom\\b",
            "\\bObject\\b", "\\bclass \\w+ extends \\w*Exception", "\\b@\\w+", "\\bgetClass\\b", "\\bhashCode\\b",
            "\\btoString\\b", "\\bprotected\\b"};

    public static void main(String[] args) throws IOException {
        String code = Files.readString(SOURCE).replaceAll("(?s)/\\*.*?\\*/", "").replaceAll("//[^\n]*", "");
        bannedWords(code);
        methodLengths(code);
        classes();
        Check.end();
    }

    private static void bannedWords(String code) {
        String withoutTexts = code.replaceAll("\"[^\"\n]*\"", "\"\"");
        for (String banned : BANNED) {
            Matcher matcher = Pattern.compile(banned).matcher(withoutTexts);
            if (matcher.find()) {
                Check.fail("the class uses " + matcher.group());
            }
        }
        if (Pattern.compile("\"\\s*\\+|\\+\\s*\"").matcher(withoutTexts).find()) {
            Check.fail("the class joins texts by +");
        }
        Check.due("signs above 127", code.chars().anyMatch(c -> c > 127), false);
    }

    private static void methodLengths(String code) {
        String[] lines = code.split("\n");
        for (int i = 0; i < lines.length; i++) {
            String indent = lines[i].replaceFirst("\\S.*", "");
            if (lines[i].matches(" +[^=;]*\\).*\\{") && indent.length() <= 8) {
                int end = i;
                while (!lines[end].equals(indent + "}")) {
                    end++;
                }
                Check.due("shortness of" + lines[i], end - i < MOST_LINES, true);
            }
        }
    }

    private static void classes() {
        List<Class<?>> all = new ArrayList<>(List.of(EchoMarket.class.getDeclaredClasses()));
        all.add(EchoMarket.class);
        Check.due("few classes", all.size() <= MOST_CLASSES, true);
        for (Class<?> each : all) {
            int fields = 0;
            for (Field field : each.getDeclaredFields()) {
                fields += Modifier.isStatic(field.getModifiers()) || field.isSynthetic() ? 0 : 1;
                boolean isStatic = Modifier.isStatic(field.getModifiers());
                Check.due("finality of " + field, !isStatic || Modifier.isFinal(field.getModifiers()), true);
            }
            Check.due("few fields in " + each, fields <= MOST_FIELDS, true);
            for (Method method : each.getDeclaredMethods()) {
                Check.due("few parameters of " + method, method.getParameterCount() <= MOST_PARAMETERS, true);
            }
        }
    }
}
