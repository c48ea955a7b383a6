import java.io.IOException;
import java.lang.reflect.Method;
import java.lang.reflect.Modifier;
import java.nio.file.Files;
import java.nio.file.Path;
import java.util.ArrayList;
import java.util.List;
import java.util.Set;
import java.util.TreeSet;
import java.util.regex.Matcher;
import java.util.regex.Pattern;

/** What README.md says of the class: its examples answer so, and its quotes are the document's words. */
public final class ReadmeTest {
    private static final Path README = Path.of("README.md");
    private static final Path DOCUMENT = Path.of("../shared/DOC.md");
    private static final int PROMISES = 31;

    private static final String NEW_OBJECT = "MealAccounts accounts = new MealAccounts();";
    /** The loop that appends a text. */
    private static final Pattern TYPED = Pattern.compile(
            "for \\(char c : \"([^\"]*)\"\\.toCharArray\\(\\)\\) accounts\\.append\\(c\\);");
    /** A call, and behind it as a comment what it answers, and perhaps a remark. */
    private static final Pattern CALL = Pattern.compile(
            "accounts\\.(\\w+)\\(([^()]*)\\); +// (-?\\d+|throws \\w+)(: .+)?");

    private static final Set<String> CALLED = new TreeSet<>();

    private ReadmeTest() {
    }

    public static void main(String[] args) throws IOException {
        String readme = Files.readString(README);
        String document = Files.readString(DOCUMENT);
        examples(readme);
        everyMethodIsShown();
        quotes(readme, document);
        callByCall(readme, document);
        Run.end();
    }

    private static void examples(String readme) {
        Matcher block = matcher("(?ms)^```java\n(.*?)^```$", readme);
        int blocks = 0;
        while (block.find()) {
            blocks++;
            example(new Run("README, example " + blocks), block.group(1).split("\n"));
        }
        test(blocks > 0, "README has no example");
    }

    private static void example(Run run, String[] lines) {
        test(lines[0].equals(NEW_OBJECT), "an example begins with " + lines[0]);
        for (int i = 1; i < lines.length; i++) {
            Matcher call = CALL.matcher(lines[i]);
            Matcher typed = TYPED.matcher(lines[i]);
            if (call.matches()) {
                answer(run, call);
            } else if (typed.matches()) {
                typed.group(1).chars().forEach(c -> run.call("append", c));
            } else {
                test(lines[i].isEmpty(), "an example has no answer in " + lines[i]);
            }
        }
    }

    private static void answer(Run run, Matcher call) {
        String name = call.group(1);
        Object[] arguments = arguments(call.group(2));
        CALLED.add(name);
        switch (call.group(3)) {
            case "throws IndexOutOfBoundsException" -> run.refused(Run.INDEX, name, arguments);
            case "throws IllegalArgumentException" -> run.refused(Run.ARGUMENT, name, arguments);
            case "throws IllegalStateException" -> run.refused(Run.STATE, name, arguments);
            default -> run.due(Long.parseLong(call.group(3)), name, arguments);
        }
    }

    private static Object[] arguments(String text) {
        List<Object> arguments = new ArrayList<>();
        for (String argument : text.isEmpty() ? new String[0] : text.split(", ")) {
            if (argument.equals("true") || argument.equals("false")) {
                arguments.add(argument.equals("true"));
            } else if (argument.endsWith("L")) {
                arguments.add(Long.valueOf(argument.substring(0, argument.length() - 1)));
            } else {
                arguments.add(Integer.valueOf(argument));
            }
        }
        return arguments.toArray();
    }

    private static void everyMethodIsShown() {
        for (Method method : MealAccounts.class.getDeclaredMethods()) {
            boolean isOfFace = Modifier.isPublic(method.getModifiers());
            test(!isOfFace || CALLED.contains(method.getName()), "README shows no call of " + method.getName());
        }
    }

    /** Each paragraph behind > stands in the document. */
    private static void quotes(String readme, String document) {
        String words = plain(document);
        Matcher quote = matcher("(?m)(^ *> .+\n)+", readme);
        int quotes = 0;
        while (quote.find()) {
            quotes++;
            String quoted = plain(quote.group().replaceAll("(?m)^ *> ", ""));
            test(words.contains(quoted), "the document has not: " + quoted);
        }
        test(quotes > 0, "README has no quotes");
    }

    /** What README says of a call is what the document's section says, and perhaps a remark behind it. */
    private static void callByCall(String readme, String document) {
        for (int promise = 1; promise <= PROMISES; promise++) {
            Matcher section = matcher("(?ms)^## Promise " + promise + ": [^\n]*\n(.*?)(?=^## )", document);
            test(section.find(), "the document has no promise " + promise);
            Matcher first = matcher("(?s)\\A\\s*`(?:int )?(\\w+\\([^)]*\\))[^`]*`: (.*)", section.group(1));
            test(first.find(), "the document has no signature in promise " + promise);
            String due = first.group(1) + ": " + asOneParagraph(first.group(2));
            String entry = entry(readme, first.group(1));
            test(entry.startsWith(due), "README has not as promise " + promise + ": " + due);
            boolean hasMore = entry.substring(Math.min(due.length(), entry.length())).contains("Exception");
            test(!hasMore, "README tells more exceptions of promise " + promise);
        }
    }

    /** What a call does; its parameters, with semicolons between them; its answer; its exceptions, likewise. */
    private static String asOneParagraph(String section) {
        StringBuilder told = new StringBuilder();
        String last = "";
        for (String part : section.split("\n\n|\n(?=- )")) {
            String kind = part.startsWith("- ") ? "- " : part.startsWith("Throws ") ? "Throws " : "";
            boolean goesOn = !kind.isEmpty() && kind.equals(last);
            told.append(goesOn ? "; " : last.isEmpty() ? " " : ". ");
            told.append(plain(goesOn ? part.substring(kind.length()) : part));
            last = kind;
        }
        return told.append(last.isEmpty() ? "" : ".").toString().strip();
    }

    /** The item of the list that begins with this signature, to the next item or heading. */
    private static String entry(String readme, String signature) {
        String begin = "\n- **`" + signature + "`**: ";
        int at = readme.indexOf(begin);
        test(at >= 0, "README has no entry of " + signature);
        if (at < 0) {
            return "";
        }
        Matcher end = matcher("\n(- \\*\\*|#|```)", readme);
        int to = end.find(at + 1) ? end.start() : readme.length();
        return plain(readme.substring(at, to));
    }

    private static Matcher matcher(String pattern, String text) {
        return Pattern.compile(pattern).matcher(text);
    }

    /** Line breaks, back quotes and signs of lists do not count. */
    private static String plain(String text) {
        return text.replaceAll("(?m)^ *- ", "").replaceAll("\\*\\*|`", "").replaceAll("\\s+", " ").strip();
    }

    private static void test(boolean isFine, String fault) {
        if (!isFine) {
            Run.fault(fault);
        }
    }
}
