import java.nio.charset.StandardCharsets;
import java.nio.file.Files;
import java.nio.file.Path;
import java.util.HashMap;
import java.util.Map;
import java.util.regex.Matcher;
import java.util.regex.Pattern;

/** README.md: each call of its examples answers what is said behind it; its tables tell what is so. */
public final class ReadmeTest {
    private static final Path PAGE = Path.of("README.md");
    private static final Path DOCUMENT = Path.of("../shared/DOC.md");
    private static final Pattern MADE = Pattern.compile("HasShut (\\w+) = new HasShut\\(\\);");
    private static final Pattern CALL = Pattern.compile(
            "(?:int|long) (\\w+) = (\\w+)\\.(\\w+)\\((.*)\\); +// (Long\\.MIN_VALUE|-?\\d+)(?:: .*)?");

    private ReadmeTest() {
    }

    public static void main(String[] args) throws Exception {
        String page = Files.readString(PAGE, StandardCharsets.UTF_8);
        examples(page);
        refusals(page);
        packedArguments(page, Files.readString(DOCUMENT, StandardCharsets.UTF_8));
        testsAreNamed(page);
        Due.end("ReadmeTest");
    }

    private static void examples(String page) {
        Matcher block = Pattern.compile("```java\n(.*?)```", Pattern.DOTALL).matcher(page);
        int blocks = 0;
        while (block.find()) {
            blocks++;
            example(block.group(1).split("\n"));
        }
        Due.due("examples in README.md", blocks, 3);
    }

    private static void example(String[] lines) {
        Map<String, Long> answers = new HashMap<>();
        Matcher made = MADE.matcher(lines[0]);
        Due.due("an object is made: " + lines[0], made.matches() ? 1 : 0, 1);
        Script object = Script.run("README.md", "");
        for (int i = 1; i < lines.length; i++) {
            Matcher call = CALL.matcher(lines[i]);
            boolean reads = call.matches() && call.group(2).equals(made.group(1));
            Due.due("a call with its answer: " + lines[i], reads ? 1 : 0, 1);
            if (reads) {
                long got = object.call(call.group(3), arguments(call.group(4), answers));
                Due.due("README.md: " + lines[i], got, number(call.group(5)));
                Due.due("README.md tells " + call.group(1) + " once", answers.put(call.group(1), got) == null ? 1 : 0, 1);
            }
        }
    }

    private static long number(String word) {
        return word.equals("Long.MIN_VALUE") ? Long.MIN_VALUE : Long.parseLong(word);
    }

    private static long[] arguments(String text, Map<String, Long> answers) {
        if (text.isEmpty()) {
            return new long[0];
        }
        String[] terms = text.split(", ");
        long[] values = new long[terms.length];
        for (int i = 0; i < terms.length; i++) {
            for (String product : terms[i].split(" \\+ ")) {
                long value = 1;
                for (String factor : product.split(" \\* ")) {
                    value *= answers.containsKey(factor) ? answers.get(factor) : Long.parseLong(factor);
                }
                values[i] += value;
            }
        }
        return values;
    }

    /** The table's numbers are the constants', and what it says to be FULL is so. */
    private static void refusals(String page) throws Exception {
        Matcher row = Pattern.compile("\n\\| (-\\d+) \\| `(\\w+)` \\|").matcher(page);
        int rows = 0;
        while (row.find()) {
            rows++;
            Due.due("README.md: " + row.group(2), Long.parseLong(row.group(1)), HasShut.class.getField(row.group(2)).getInt(null));
        }
        Due.due("refusals with a name in README.md", rows, 4);
        Matcher full = Pattern.compile("(\\d+) THINGS, (\\d+) BODIES, (\\d+) bytes").matcher(page);
        Due.due("README.md tells what is FULL", full.find() ? 1 : 0, 1);
        dueFull("thing", Integer.parseInt(full.group(1)), 6, 100);
        dueFull("body", Integer.parseInt(full.group(2)), 0);
        dueFull("feed", Integer.parseInt(full.group(3)), 49);
        Script.run("README.md: what else there is to know", """
            element(0, 0) = LMIN row(0, 0, 1) = 1 element(0, 1) = LMIN body(0) = 0 act(0, 1, 1) = 2 count(5) = 2 keep(0, 0) = 1
            element(0, 0) = LMIN act(0, 4, 1) = 0 count(5) = 0 things(1, 0, 1) = 0 things(1, -1, 1) = 0 row(1, 0, 3) = 1 things(1, 3, 1) = 0
            things(1, -1, 1) = 0 thing(0, 1) = 0 mend(0, 1, 12) = 10 open(0, 0, /) = NOT worth(0, 0, /) = NOT worth(1, 1, /) = -2/1
            law("1") = 1 law("1+") = -102 count(2) = 0""");
    }

    private static void dueFull(String name, int most, long... arguments) {
        Script script = Script.run("README.md: " + most + " by " + name, "");
        for (int i = 0; i < most; i++) {
            Due.due("README.md: not FULL: " + name, script.call(name, arguments) >= 0 ? 1 : 0, 1);
        }
        Due.due("README.md: FULL: " + name, script.call(name, arguments), HasShut.FULL);
    }

    /** Each argument of the table stands in the face of the calls that are named with it, and of no other. */
    private static void packedArguments(String page, String document) {
        for (String name : new String[] {"tr", "dr", "yb", "ab", "az", "ts", "tyw"}) {
            Matcher row = Pattern.compile("\n\\| `" + name + "` \\|.*\\| (.*) \\|").matcher(page);
            Due.due("README.md tells " + name, row.find() ? 1 : 0, 1);
            StringBuilder calls = new StringBuilder();
            Matcher call = Pattern.compile("public \\w+ (\\w+)\\([^)]*\\bint " + name + "\\b[^)]*\\);").matcher(document);
            while (call.find()) {
                calls.append(calls.length() == 0 ? "`" : ", `").append(call.group(1)).append("`");
            }
            Due.due("README.md: " + name + " is in " + calls + ": " + row.group(1), row.group(1).contentEquals(calls) ? 1 : 0, 1);
        }
    }

    private static void testsAreNamed(String page) {
        for (String name : Path.of("src/test/java").toFile().list()) {
            if (name.endsWith("Test.java")) {
                String test = name.substring(0, name.length() - ".java".length());
                Due.due("README.md names " + test, page.contains("`" + test + "`") ? 1 : 0, 1);
            }
        }
    }
}
