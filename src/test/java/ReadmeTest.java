import java.io.IOException;
import java.lang.reflect.InvocationTargetException;
import java.lang.reflect.Method;
import java.lang.reflect.Modifier;
import java.nio.file.Files;
import java.nio.file.Path;
import java.util.ArrayList;
import java.util.List;
import java.util.regex.Matcher;
import java.util.regex.Pattern;
import java.util.stream.Collectors;

/** README.md says what is so: its helpers are those below, its example is run line by line, every call is in its tables. */
public final class ReadmeTest {
    private static final Check CHECK = new Check();

    private static final Pattern FEED = Pattern.compile("feed\\(router, \"(.*)\"\\);");
    private static final Pattern CALL = Pattern.compile("router\\.(\\w+)\\((.*?)\\); +// (.+)");

    // ---- the helpers, as they stand on the page

    static void feed(MailRouter router, String text) {
        for (int from = 0; from < text.length(); from += 8) {
            int n = Math.min(8, text.length() - from);
            long bytes = 0;
            for (int k = 0; k < n; k++) {
                bytes |= (text.charAt(from + k) & 255L) << (8 * k);
            }
            router.feed(bytes, n);
        }
    }

    static String out(MailRouter router, int length) {
        StringBuilder text = new StringBuilder();
        for (int i = 0; i < length; i++) {
            text.append((char) (router.word(i / 8) >>> (8 * (i % 8)) & 255));
        }
        return text.toString();
    }

    // ---- the page

    /** The java blocks of a page, each as its lines. */
    private static List<List<String>> javaBlocks(List<String> page) {
        List<List<String>> blocks = new ArrayList<>();
        boolean inside = false;
        for (String line : page) {
            if (line.equals("```java")) {
                inside = true;
                blocks.add(new ArrayList<>());
            } else if (line.startsWith("```")) {
                inside = false;
            } else if (inside) {
                blocks.get(blocks.size() - 1).add(line);
            }
        }
        return blocks;
    }

    private static String unindented(List<String> lines) {
        return lines.stream().map(String::strip).collect(Collectors.joining("\n"));
    }

    private static void runExample(List<String> lines) {
        MailRouter router = new MailRouter();
        for (String line : lines) {
            Matcher feed = FEED.matcher(line);
            Matcher call = CALL.matcher(line);
            if (feed.matches()) {
                feed(router, feed.group(1).replace("\\n", "\n"));
            } else if (call.matches()) {
                CHECK.due(line, answer(router, call.group(1), call.group(2), call.group(3)), call.group(3));
            } else if (!line.isEmpty()) {
                CHECK.due("an example", line, "MailRouter router = new MailRouter();");
            }
        }
    }

    /** What a call answers, told in the manner in which the page tells it. */
    private static String answer(MailRouter router, String name, String arguments, String want) {
        try {
            Method method = methodNamed(name);
            Object got = method.invoke(router, parsed(arguments, method.getParameterTypes()));
            if (want.startsWith("\"")) {
                return "\"" + out(router, (Integer) got) + "\"";
            }
            return want.matches("[A-Z]+") && got.equals(MailRouter.class.getField(want).get(null)) ? want : got.toString();
        } catch (InvocationTargetException e) {
            return e.getCause().getClass().getSimpleName();
        } catch (ReflectiveOperationException e) {
            return "nothing, for " + e;
        }
    }

    private static Method methodNamed(String name) throws NoSuchMethodException {
        for (Method method : MailRouter.class.getMethods()) {
            if (method.getName().equals(name)) {
                return method;
            }
        }
        throw new NoSuchMethodException(name);
    }

    private static Object[] parsed(String arguments, Class<?>[] types) {
        String[] texts = arguments.isEmpty() ? new String[0] : arguments.split(", ");
        Object[] values = new Object[texts.length];
        for (int i = 0; i < texts.length; i++) {
            if (types[i] == long.class) {
                values[i] = Long.valueOf(texts[i]);
            } else if (types[i] == int.class) {
                values[i] = Integer.valueOf(texts[i]);
            } else {
                values[i] = Boolean.valueOf(texts[i]);
            }
        }
        return values;
    }

    private static void tellsOfEachCall(String page, String example) {
        for (Method method : MailRouter.class.getDeclaredMethods()) {
            if (!Modifier.isPublic(method.getModifiers())) {
                continue;
            }
            String name = method.getName();
            CHECK.due("the page has a row for " + name, page.contains("\n| `" + name + "("), true);
            CHECK.due("the example has a call of " + name, name.equals("word") || example.contains("router." + name + "("), true);
        }
    }

    /** Every test that there is stands in the table of tests. */
    private static void tellsOfEachTest(String page) throws IOException {
        try (var files = Files.list(Path.of("src/test/java"))) {
            for (Path file : files.collect(Collectors.toList())) {
                String name = file.getFileName().toString().replace(".java", "");
                boolean isTest = Files.readString(file).contains("public static void main(String[] args)");
                CHECK.due("the page has a row for " + name, !isTest || page.contains("\n| `" + name + "` |"), true);
            }
        }
    }

    public static void main(String[] args) throws IOException {
        List<String> page = Files.readAllLines(Path.of("README.md"));
        List<List<String>> blocks = javaBlocks(page);
        CHECK.due("java blocks on the page", blocks.size(), 2);
        String own = unindented(Files.readAllLines(Path.of("src/test/java/ReadmeTest.java")));
        CHECK.due("the helpers on the page are those of this test", own.contains(unindented(blocks.get(0))), true);
        runExample(blocks.get(1));
        tellsOfEachCall(String.join("\n", page), unindented(blocks.get(1)));
        tellsOfEachTest(String.join("\n", page));
        CHECK.end();
    }
}
