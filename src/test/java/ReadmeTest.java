import java.io.IOException;
import java.nio.file.Files;
import java.nio.file.Path;
import java.util.regex.Matcher;
import java.util.regex.Pattern;

/** What README.md says that the calls of its example answer. It is run in the project's folder. */
public final class ReadmeTest {
    private static final Pattern FED = Pattern.compile("feed\\(x, \"(.*)\"\\);");
    private static final Pattern CALLED = Pattern.compile("x\\.(\\w+)\\(([^)]*)\\); +// (-?\\d+|true|false)(:.*|)");

    private static int passed = 0;
    private static int failed = 0;

    public static void main(String[] args) throws IOException {
        BathWater x = new BathWater();
        for (String line : example(Files.readString(Path.of("README.md")))) {
            Matcher fed = FED.matcher(line);
            Matcher called = CALLED.matcher(line);
            if (fed.matches()) {
                Texts.feed(x, fed.group(1));
            } else if (called.matches()) {
                due(line, answer(x, called.group(1), called.group(2)), number(called.group(3)));
            } else {
                due("not understood: " + line, line.isEmpty() || line.startsWith("//") ? 1 : 0, 1);
            }
        }
        due("an example of 30 calls and more", passed > 30 ? 1 : 0, 1);
        System.out.println("ReadmeTest: " + passed + " passed, " + failed + " failed");
        if (failed != 0) {
            System.exit(1);
        }
    }

    private static void due(String what, long got, long want) {
        if (got == want) {
            passed++;
        } else {
            failed++;
            System.out.println(what + " answered " + got + ", due is " + want);
        }
    }

    /** The lines behind the one that makes the object, as far as the block goes. */
    private static String[] example(String readme) {
        String made = "BathWater x = new BathWater();\n";
        int from = readme.indexOf(made) + made.length();
        return readme.substring(from, readme.indexOf("```", from)).split("\n");
    }

    private static long answer(BathWater x, String name, String values) {
        if (values.isEmpty()) {
            return Calls.call(x, name);
        }
        String[] told = values.split(", ");
        int[] given = new int[told.length];
        for (int i = 0; i < told.length; i++) {
            given[i] = number(told[i]);
        }
        return Calls.call(x, name, given);
    }

    private static int number(String told) {
        return told.equals("true") ? 1 : told.equals("false") ? 0 : Integer.parseInt(told);
    }
}
