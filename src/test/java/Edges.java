import java.io.IOException;
import java.nio.file.Files;
import java.nio.file.Path;
import java.util.Set;
import java.util.TreeSet;
import java.util.function.Supplier;

/** Checks of boundary cases, each under the words of the document that name it. The tests are run in the project's folder. */
final class Edges {
    private final String document;
    private final Set<Integer> promises = new TreeSet<>();
    private String words = "";
    private int passed = 0;
    private int failed = 0;

    Edges() throws IOException {
        document = Files.readString(Path.of("../shared/DOC.md"));
    }

    /** What follows is about these words of a promise; it is seen to that they stand there. */
    void promise(int number, String quoted) {
        String behind = part("## Promise " + number + ":");
        promises.add(number);
        name("promise " + number, behind, quoted);
    }

    /** What follows is about these words of the terms. */
    void term(String quoted) {
        name("terms", part("## Terms"), quoted);
    }

    private String part(String heading) {
        int from = document.indexOf(heading);
        int to = document.indexOf("\n## ", from + 1);
        return from < 0 ? "" : document.substring(from, to < 0 ? document.length() : to);
    }

    private void name(String where, String part, String quoted) {
        words = where + ", \"" + quoted + "\"";
        due("what the document says", part.contains(quoted) ? 1 : 0, 1);
    }

    void allPromises(int last) {
        for (int number = 1; number <= last; number++) {
            due("promise " + number + " has a test", promises.contains(number) ? 1 : 0, 1);
        }
    }

    void due(String what, long got, long want) {
        if (got == want) {
            passed++;
        } else {
            failed++;
            System.out.println(words + ": " + what + " answered " + got + ", due is " + want);
        }
    }

    void due(String what, boolean got, boolean want) {
        due(what, got ? 1 : 0, want ? 1 : 0);
    }

    private void alike(String what, String got, String want) {
        if (got.equals(want)) {
            passed++;
        } else {
            failed++;
            System.out.println(words + ": " + what + " did something:\n  " + got + "\n  where it was\n  " + want);
        }
    }

    void answers(BathWater x, long want, String name, int... values) {
        due(Calls.text(name, values), Calls.call(x, name, values), want);
    }

    /** The answer, and that all goes on as without the call. */
    void quiet(Supplier<BathWater> made, long want, String name, int... values) {
        BathWater x = made.get();
        answers(x, want, name, values);
        alike(Calls.text(name, values), Trace.of(x), Trace.of(made.get()));
    }

    /**
     * One of the values may be from low to high: at these two the answer is another one than the refusal, beyond them
     * it is the refusal, and nothing is done.
     */
    void range(Supplier<BathWater> made, long refusal, String name, int[] values, int position, int low, int high) {
        int[] inside = {low, high};
        int[] outside = {low - 1, high + 1, Integer.MIN_VALUE, Integer.MAX_VALUE, low - 256, high + 256};
        for (int value : inside) {
            int[] given = with(values, position, value);
            long got = Calls.call(made.get(), name, given);
            due(Calls.text(name, given) + " refused", got == refusal, false);
        }
        for (int value : outside) {
            quiet(made, refusal, name, with(values, position, value));
        }
    }

    private static int[] with(int[] values, int position, int value) {
        int[] given = values.clone();
        given[position] = value;
        return given;
    }

    void end(String test) {
        System.out.println(test + ": " + passed + " passed, " + failed + " failed");
        if (failed != 0) {
            System.exit(1);
        }
    }
}
