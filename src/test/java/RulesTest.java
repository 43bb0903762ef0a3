import java.lang.reflect.Constructor;
import java.lang.reflect.Field;
import java.lang.reflect.InvocationTargetException;
import java.lang.reflect.Method;
import java.lang.reflect.Modifier;
import java.nio.file.Files;
import java.nio.file.Path;
import java.util.ArrayList;
import java.util.List;
import java.util.Random;
import java.util.Set;
import java.util.TreeSet;
import java.util.regex.Matcher;
import java.util.regex.Pattern;

/**
 * The document's face, the rules of LANGUAGE.md that can be seen in the source, and that no call ever throws.
 * It is run in the project's folder.
 */
public final class RulesTest {
    private static int passed = 0;
    private static int failed = 0;

    private static void check(String what, boolean holds) {
        if (holds) {
            passed++;
        } else {
            failed++;
            System.out.println(what);
        }
    }

    public static void main(String[] args) throws Exception {
        face();
        names();
        source();
        wildCalls();
        System.out.println("RulesTest: " + passed + " passed, " + failed + " failed");
        if (failed != 0) {
            System.exit(1);
        }
    }

    private static String signature(Method m) {
        List<String> types = new ArrayList<>();
        for (Class<?> type : m.getParameterTypes()) {
            types.add(type.getName());
        }
        return m.getReturnType().getName() + " " + m.getName() + types;
    }

    private static void face() throws Exception {
        String doc = Files.readString(Path.of("../shared/DOC.md"));
        Set<String> due = new TreeSet<>();
        Matcher line = Pattern.compile("(?m)^    public (int|boolean) (\\w+)\\(([^)]*)\\);$").matcher(doc);
        while (line.find()) {
            List<String> types = new ArrayList<>();
            for (String parameter : line.group(3).split(", ")) {
                if (!parameter.isEmpty()) {
                    types.add(parameter.split(" ")[0]);
                }
            }
            due.add(line.group(1) + " " + line.group(2) + types);
        }
        check("the document tells 52 methods, not " + due.size(), due.size() == 52);
        Set<String> there = new TreeSet<>();
        for (Method m : BathWater.class.getDeclaredMethods()) {
            if (!Modifier.isPrivate(m.getModifiers())) {
                check("not public: " + m, Modifier.isPublic(m.getModifiers()) && !Modifier.isStatic(m.getModifiers()));
                there.add(signature(m));
            }
        }
        check("the methods " + there + " are not those of the document", there.equals(due));
        for (Field f : BathWater.class.getDeclaredFields()) {
            boolean constant = f.getName().equals("NONE");
            check("field " + f, constant ? Modifier.isPublic(f.getModifiers()) : Modifier.isPrivate(f.getModifiers()));
        }
        Constructor<?>[] made = BathWater.class.getDeclaredConstructors();
        check("one public constructor", made.length == 1 && Modifier.isPublic(made[0].getModifiers())
            && made[0].getParameterCount() == 0);
        check("a final class", Modifier.isFinal(BathWater.class.getModifiers()));
    }

    private static void names() {
        Set<String> face = new TreeSet<>();
        List<Class<?>> classes = new ArrayList<>(List.of(BathWater.class.getDeclaredClasses()));
        check("twelve classes at most", classes.size() < 12);
        for (Method m : BathWater.class.getDeclaredMethods()) {
            if (Modifier.isPublic(m.getModifiers())) {
                face.add(m.getName());
            }
        }
        classes.add(BathWater.class);
        for (Class<?> c : classes) {
            check("static or outermost: " + c, c == BathWater.class || Modifier.isStatic(c.getModifiers()));
            int fields = 0;
            for (Field f : c.getDeclaredFields()) {
                boolean isStatic = Modifier.isStatic(f.getModifiers());
                check("static and not final: " + f, !isStatic || Modifier.isFinal(f.getModifiers()));
                fields += isStatic ? 0 : 1;
            }
            check("twenty fields at most: " + c, fields <= 20);
            for (Method m : c.getDeclaredMethods()) {
                boolean own = c == BathWater.class && Modifier.isPublic(m.getModifiers());
                check("the face has that name: " + m, own || !face.contains(m.getName()));
                check("seven parameters at most: " + m, m.getParameterCount() <= 7);
            }
        }
    }

    private static void source() throws Exception {
        String all = Files.readString(Path.of("src/main/java/BathWater.java"));
        String code = all.replaceAll("(?s)/\\*.*?\\*/", "").replaceAll("//[^\n]*", "").replaceAll("\"[^\"]*\"", "\"\"");
        String[] words = {"throw", "throws", "try", "catch", "synchronized", "assert", "package", "var", "native", "goto",
            "Random", "Thread", "Exception", "hashCode", "toString", "println", "System\\.(?!arraycopy)"};
        for (String word : words) {
            check("the source has " + word, !Pattern.compile("\\b" + word + (word.endsWith(")") ? "" : "\\b")).matcher(code).find());
        }
        check("the source has ->", !code.contains("->"));
        check("the source has ::", !code.contains("::"));
        check("only java.util.Arrays is imported", code.replace("import java.util.Arrays;", "").indexOf("import") < 0);
        check("only signs 10 and 32 to 126", all.matches("[\n\\x20-\\x7e]*"));
    }

    private static int wild(Random r) {
        int[] edges = {Integer.MIN_VALUE, Integer.MAX_VALUE, -1, 0, 1, 2, 3, 4, 5, 6, 9, 10, 11, 12, 20, 59, 60, 61, 99, 100,
            999, 1000, 1001, 1600, 100000};
        return r.nextInt(4) == 0 ? r.nextInt() : r.nextInt(2) == 0 ? edges[r.nextInt(edges.length)] : r.nextInt(6);
    }

    private static void wildText(Random r, BathWater x) {
        String[] bits = {"pool ", "flow ", "water ", "at ", "swimmer ", "manners ", "wants ", "likes ", "gala ", "draw ", "or ",
            "and ", "not ", "far ", "swum ", "step ", ";", "(", ")", "<", ">", "=", "+", "-", "*", "/", "%", "7 ", "12 ", "3",
            "bob ", "9999 ", "\n", "?", "likes ((((((((((((", "not not not not not ", "water 5 at 2;", "swimmer x manners 6 at 1;",
            "pool 12;", "likes 7/(far-2)%(manners-6);"};
        StringBuilder text = new StringBuilder();
        int many = r.nextInt(60);
        for (int i = 0; i < many; i++) {
            text.append(bits[r.nextInt(bits.length)]);
        }
        Texts.feed(x, text.substring(0, Math.min(1600, text.length())));
    }

    private static void goodText(Random r, BathWater x) {
        x.end(0);
        int spots = 1 + r.nextInt(12);
        StringBuilder text = new StringBuilder("pool " + spots + " flow " + (1 + r.nextInt(99)) + ";");
        for (int i = 0; i < spots; i++) {
            text.append("water " + r.nextInt(100) + " at " + i + ";");
        }
        int swimmers = r.nextInt(6);
        for (int i = 0; i < swimmers; i++) {
            text.append("swimmer " + (char) ('a' + i) + " manners " + r.nextInt(100) + " wants " + r.nextInt(100));
            text.append(r.nextInt(4) == 0 ? ";" : " at " + r.nextInt(spots) + ";");
        }
        text.append("likes manners*9999*9999/(far-1)%(swum-water)+step*9999*9999;gala 50;");
        Texts.feed(x, text.toString());
        x.bath();
    }

    private static void wildCalls() throws Exception {
        Random r = new Random(7);
        List<Method> face = new ArrayList<>();
        for (Method m : BathWater.class.getDeclaredMethods()) {
            if (Modifier.isPublic(m.getModifiers())) {
                face.add(m);
            }
        }
        face.sort((a, b) -> a.getName().compareTo(b.getName()));
        for (int run = 0; run < 150; run++) {
            BathWater x = new BathWater();
            for (int i = 0; i < 400; i++) {
                if (i % 80 == 0 && run % 3 > 0) {
                    goodText(r, x);
                } else if (r.nextInt(60) == 0) {
                    wildText(r, x);
                }
                wildCall(r, x, face.get(r.nextInt(face.size())));
            }
        }
    }

    private static void wildCall(Random r, BathWater x, Method m) throws Exception {
        Object[] values = new Object[m.getParameterCount()];
        for (int i = 0; i < values.length; i++) {
            values[i] = m.getParameterTypes()[i] == int.class ? (Object) wild(r) : (Object) r.nextBoolean();
        }
        try {
            m.invoke(x, values);
            passed++;
        } catch (InvocationTargetException e) {
            check(m + " with " + List.of(values) + " threw " + e.getCause(), false);
        }
    }
}
