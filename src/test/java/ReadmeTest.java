import java.io.IOException;
import java.lang.reflect.Method;
import java.lang.reflect.Modifier;
import java.nio.file.Files;
import java.nio.file.Path;
import java.util.List;
import java.util.stream.Stream;

/** README.md: its example answers as its remarks say, and it names each call and each test. Argument: the source file. */
public final class ReadmeTest extends Checks {
    private static String page = "";

    public static void main(String[] args) throws IOException {
        Path root = Path.of(args.length > 0 ? args[0] : "").toAbsolutePath();
        while (root != null && !Files.exists(root.resolve("README.md"))) root = root.getParent();
        must(root != null, "README.md is missing");
        if (root != null) {
            page = Files.readString(root.resolve("README.md"));
            example();
            calls();
            tests(root);
        }
        end("readme");
    }

    private static void example() {
        sentence("the example");
        TilesOfLaw floor = new TilesOfLaw();
        int one = floor.party(0, 3, 27);
        remark("int one = floor.party(0, 3, 27);", one);
        remark("int way = floor.told(one, 7);", floor.told(one, 7));
        remark("int who = floor.minute();", floor.minute());
        remark("int on = floor.run(one, 9, 0);", floor.run(one, 9, 0));
        String rule = page.replaceAll("(?s).*String rule = \"([^\"]*)\".*", "$1");
        for (int k = 0; k < rule.length(); k++) floor.feed(rule.charAt(k));
        int text = floor.text();
        remark("int text = floor.text();", text);
        remark("int was = floor.force(text);", floor.force(text));
        remark("int told = floor.film(2, one, 5);", floor.film(2, one, 5));
        remark("int otherwise = floor.tells(2, one, 0);", floor.tells(2, one, 0));
    }

    /** The page has this line, and the remark behind it begins with the answer. */
    private static void remark(String line, long got) {
        int at = page.indexOf(line), from = page.indexOf("// ", at) + 3, to = page.indexOf(":", from);
        must(at >= 0 && page.substring(from, to).equals("" + got), line + " answered " + got);
    }

    private static void calls() {
        sentence("what there is to call");
        for (Method m : TilesOfLaw.class.getDeclaredMethods()) {
            if (!Modifier.isPublic(m.getModifiers())) continue;
            String parameters = page.replaceAll("(?s).*?`" + m.getName() + "\\(([^)]*)\\)`.*", "$1");
            must(!parameters.equals(page), m.getName() + " is named");
            due("parameters of " + m.getName(), parameters.isEmpty() ? 0 : parameters.split(",").length, m.getParameterCount());
        }
    }

    private static void tests(Path root) throws IOException {
        sentence("tests");
        try (Stream<Path> files = Files.list(root.resolve("src/test/java"))) {
            List<String> names = files.map(file -> file.getFileName().toString().replace(".java", "")).toList();
            must(!names.isEmpty(), "there are some");
            for (String name : names) must(page.contains("`" + name + "`"), name + " is named");
        }
    }
}
