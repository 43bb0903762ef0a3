import java.util.ArrayList;
import java.util.HashSet;
import java.util.LinkedHashSet;
import java.util.List;
import java.util.Random;
import java.util.Set;
import java.util.regex.Matcher;
import java.util.regex.Pattern;

/**
 * Random texts, good ones and spoiled ones, against a second reading of promises 4 and 5 that shares nothing with the
 * class: the document's grammar as a list of rules, of which Earley's sets tell what can stand where, and each other
 * FAULT looked for by itself, of all of which the first by its place, then the least, is due.
 */
public final class FaultsTest {
    private static final String[] RULES = {
        "bath =", "bath = bath line",
        "line = pool N ;", "line = pool N flow N ;", "line = water N at N ;",
        "line = swimmer NAME manners N ;", "line = swimmer NAME manners N at N ;",
        "line = swimmer NAME manners N wants N ;", "line = swimmer NAME manners N wants N at N ;",
        "line = likes e ;", "line = gala N ;", "line = draw N ;",
        "e = both", "e = e or both", "both = one", "both = both and one",
        "one = not one", "one = sum", "one = sum < sum", "one = sum > sum", "one = sum = sum",
        "sum = term", "sum = sum + term", "sum = sum - term",
        "term = unit", "term = term * unit", "term = term / unit", "term = term % unit",
        "unit = N", "unit = manners", "unit = far", "unit = water", "unit = swum", "unit = wants", "unit = step",
        "unit = ( e )",
    };
    private static final Set<String> OWN_WORDS = Set.of("pool", "flow", "water", "at", "swimmer", "manners", "wants", "likes",
        "gala", "draw", "or", "and", "not", "far", "swum", "step");
    private static final Set<String> FACTS = Set.of("manners", "far", "water", "swum", "wants", "step");

    private static int passed = 0;
    private static int failed = 0;
    private static final int[] SEEN = new int[5];

    public static void main(String[] args) {
        int texts = args.length > 0 ? Integer.parseInt(args[0]) : 3000;
        long from = args.length > 1 ? Long.parseLong(args[1]) : 1;
        for (long seed = from; seed < from + texts && failed < 5; seed++) {
            Random r = new Random(seed);
            String text = new Writer(r).text();
            compare(text, seed);
            compare(spoiled(text, r), seed);
            compare(spoiled(spoiled(text, r), r), seed);
        }
        for (int fault = 0; fault < 5; fault++) {
            due("texts of FAULT " + fault + " enough", SEEN[fault] > texts / 30 ? 1 : 0, 1);
        }
        System.out.println("FaultsTest: " + passed + " passed, " + failed + " failed");
        if (failed != 0) {
            System.exit(1);
        }
    }

    private static void due(String what, long got, long want) {
        if (got == want) {
            passed++;
        } else {
            failed++;
            System.out.println(what + " answered " + got + ", due is " + want);
        }
    }

    private static void compare(String whole, long seed) {
        String text = whole.substring(0, Math.min(1600, whole.length()));
        Reading reading = new Reading(text);
        String which = " of text " + seed + " <" + text + ">";
        BathWater x = new BathWater();
        Texts.feed(x, text);
        SEEN[reading.fault]++;
        due("bath()" + which, x.bath(), reading.fault == 0 ? reading.names.size() : -1);
        due("fault(0)" + which, x.fault(0), reading.fault);
        due("fault(1)" + which, x.fault(1), reading.place);
        due("bytes" + which, x.about(11), reading.fault == 0 ? 0 : text.length());
        if (reading.fault == 0) {
            due("SPOTS" + which, x.about(1), reading.spots);
            due("units" + which, x.about(12), reading.units);
            due("told SPOTS" + which, x.about(15), reading.told.stream().mapToInt(spot -> 1 << spot).sum());
        }
    }

    // ---- what can stand where ----

    private record Item(String[] rule, int dot, int origin) {
        String next() {
            return dot + 2 < rule.length ? rule[dot + 2] : "";
        }

        @Override public boolean equals(Object o) {
            return o instanceof Item i && i.rule == rule && i.dot == dot && i.origin == origin;
        }

        @Override public int hashCode() {
            return (System.identityHashCode(rule) * 31 + dot) * 1009 + origin;
        }
    }

    private static final String[][] GRAMMAR = grammar();

    private static String[][] grammar() {
        String[][] all = new String[RULES.length][];
        for (int i = 0; i < RULES.length; i++) {
            all[i] = RULES[i].split(" ");
        }
        return all;
    }

    /** Earley's sets: how many of the TOKENS can stand there; one more, if the end can stand behind them, too. */
    private static int standing(List<String> kinds) {
        List<List<Item>> sets = new ArrayList<>();
        Set<Item> first = new LinkedHashSet<>();
        for (String[] rule : GRAMMAR) {
            if (rule[0].equals("bath")) {
                first.add(new Item(rule, 0, 0));
            }
        }
        sets.add(new ArrayList<>(first));
        for (int at = 0; ; at++) {
            complete(sets, at);
            if (at == kinds.size()) {
                boolean whole = sets.get(at).stream().anyMatch(i -> i.next().isEmpty() && i.rule()[0].equals("bath") && i.origin() == 0);
                return whole ? at + 1 : at;
            }
            List<Item> next = new ArrayList<>();
            for (Item i : sets.get(at)) {
                if (i.next().equals(kinds.get(at))) {
                    next.add(new Item(i.rule(), i.dot() + 1, i.origin()));
                }
            }
            if (next.isEmpty()) {
                return at;
            }
            sets.add(next);
        }
    }

    private static void complete(List<List<Item>> sets, int at) {
        List<Item> set = sets.get(at);
        Set<Item> known = new HashSet<>(set);
        for (int i = 0; i < set.size(); i++) {
            Item item = set.get(i);
            List<Item> more = new ArrayList<>();
            if (item.next().isEmpty()) {
                for (Item waiting : new ArrayList<>(sets.get(item.origin()))) {
                    if (waiting.next().equals(item.rule()[0])) {
                        more.add(new Item(waiting.rule(), waiting.dot() + 1, waiting.origin()));
                    }
                }
            } else {
                for (String[] rule : GRAMMAR) {
                    if (rule[0].equals(item.next())) {
                        more.add(new Item(rule, 0, at));
                    }
                }
            }
            for (Item m : more) {
                if (known.add(m)) {
                    set.add(m);
                }
            }
        }
    }

    // ---- a second reading ----

    private static final class Reading {
        final List<String> tokens = new ArrayList<>();
        final List<Integer> places = new ArrayList<>();
        final Set<String> names = new HashSet<>();
        final Set<Integer> told = new HashSet<>();
        int spots = 6;
        int units = 0;
        int fault = 0;
        int place = -1;

        Reading(String text) {
            Matcher m = Pattern.compile("(?s)[a-z]+|[0-9]+(?<letter>(?=[a-z]))?|[ \n]|.").matcher(text);
            boolean parted = true;
            while (parted && m.find()) {
                String s = m.group();
                if (s.equals(" ") || s.equals("\n")) {
                    continue;
                }
                parted = s.matches("[a-z]{1,8}|[;()<>=+*/%-]") || s.matches("[0-9]{1,4}") && m.group("letter") == null;
                if (parted) {
                    tokens.add(s);
                    places.add(m.start());
                } else {
                    found(1, m.start());
                }
            }
            int fine = standing(tokens.stream().map(Reading::kind).toList());
            if (fine < tokens.size()) {
                found(2, places.get(fine));
            } else if (fine == tokens.size() && parted) {
                found(2, text.length());
            }
            look(Math.min(fine, tokens.size()));
        }

        static String kind(String token) {
            char c = token.charAt(0);
            return Character.isDigit(c) ? "N" : Character.isLetter(c) && !OWN_WORDS.contains(token) ? "NAME" : token;
        }

        void found(int what, int where) {
            if (fault == 0 || where < place || where == place && what < fault) {
                fault = what;
                place = where;
            }
        }

        /** All but what can't stand by the grammar, in those TOKENS that can. */
        void look(int fine) {
            List<String> lines = new ArrayList<>();
            for (int from = 0; from < fine; ) {
                int to = from;
                while (to < fine && !tokens.get(to).equals(";")) {
                    to++;
                }
                lookAtLine(lines, from);
                lines.add(tokens.get(from));
                if (tokens.get(from).equals("likes")) {
                    lookAtLikes(from + 1, to);
                } else {
                    for (int i = from + 1; i < to; i++) {
                        lookAtToken(tokens.get(from), i);
                    }
                }
                from = to + 1;
            }
        }

        void lookAtLine(List<String> lines, int from) {
            String sort = tokens.get(from);
            long before = lines.stream().filter(sort::equals).count();
            long most = sort.equals("water") ? 12 : sort.equals("swimmer") ? 5 : 1;
            if (before >= most || sort.equals("pool") && !lines.isEmpty()) {
                found(2, places.get(from));
            }
        }

        void lookAtToken(String sort, int i) {
            String token = tokens.get(i);
            if (kind(token).equals("NAME") && !names.add(token)) {
                found(3, places.get(i));
            }
            if (!kind(token).equals("N")) {
                return;
            }
            int number = Integer.parseInt(token);
            String behind = tokens.get(i - 1);
            int least = behind.equals("pool") || behind.equals("flow") ? 1 : 0;
            int most = switch (behind) {
                case "pool" -> 12;
                case "at" -> spots - 1;
                case "gala" -> 100;
                case "draw" -> 999;
                default -> 99;
            };
            if (number < least || number > most) {
                found(4, places.get(i));
            }
            if (behind.equals("pool")) {
                spots = number;
            }
            if (sort.equals("water") && behind.equals("at") && !told.add(number)) {
                found(3, places.get(i));
            }
        }

        /** A one behind not goes on till and, or, the bracket that closes, or the line's end. */
        void lookAtLikes(int from, int to) {
            StringBuilder within = new StringBuilder();
            for (int i = from; i < to; i++) {
                String token = tokens.get(i);
                if (token.equals("or") || token.equals("and") || token.equals(")")) {
                    while (within.length() > 0 && within.charAt(within.length() - 1) == '!') {
                        within.setLength(within.length() - 1);
                    }
                }
                if (token.equals(")")) {
                    within.setLength(Math.max(0, within.length() - 1));
                }
                if (kind(token).equals("N") || FACTS.contains(token) || token.equals("(")) {
                    units++;
                    if (units > 30) {
                        found(2, places.get(i));
                    }
                }
                if (token.equals("(") || token.equals("not")) {
                    if (within.length() > 6) {
                        found(2, places.get(i));
                    }
                    within.append(token.equals("(") ? '(' : '!');
                }
            }
        }
    }

    // ---- texts ----

    private static final class Writer {
        private final Random r;
        private final List<String> tokens = new ArrayList<>();
        private int left;

        Writer(Random r) {
            this.r = r;
        }

        String text() {
            int spots = 6;
            List<List<String>> lines = new ArrayList<>();
            if (r.nextInt(4) > 0) {
                spots = r.nextInt(4) == 0 ? 12 : 1 + r.nextInt(12);
                tokens.addAll(List.of("pool", "" + spots));
                if (r.nextBoolean()) {
                    tokens.addAll(List.of("flow", "" + (1 + r.nextInt(99))));
                }
                tokens.add(";");
            }
            int dry = r.nextInt(4);
            for (int spot = 0; spot < spots; spot++) {
                if (r.nextInt(4) >= dry) {
                    lines.add(List.of("water", "" + r.nextInt(100), "at", "" + spot, ";"));
                }
            }
            int swimmers = r.nextInt(r.nextInt(3) == 0 ? 7 : 4);
            for (int who = 0; who < swimmers; who++) {
                lines.add(swimmer(r.nextInt(12) == 0 ? 0 : who, spots));
            }
            if (spots > 1 && r.nextInt(9) == 0) {
                lines.add(List.of("water", "5", "at", "" + r.nextInt(spots), ";"));
            }
            if (r.nextInt(4) > 0) {
                lines.add(likes());
            }
            if (r.nextBoolean()) {
                lines.add(List.of("gala", "" + r.nextInt(101), ";"));
            }
            if (r.nextBoolean()) {
                lines.add(List.of("draw", "" + r.nextInt(1000), ";"));
            }
            java.util.Collections.shuffle(lines, r);
            lines.forEach(tokens::addAll);
            return spaced(tokens, r);
        }

        private List<String> swimmer(int who, int spots) {
            String name = (char) ('a' + who) + "bcdefgh".substring(r.nextInt(8));
            List<String> line = new ArrayList<>(List.of("swimmer", name, "manners", "" + r.nextInt(100)));
            if (r.nextBoolean()) {
                line.addAll(List.of("wants", "" + r.nextInt(100)));
            }
            if (r.nextBoolean()) {
                line.addAll(List.of("at", "" + r.nextInt(spots)));
            }
            line.add(";");
            return line;
        }

        private List<String> likes() {
            List<String> line = new ArrayList<>(List.of("likes"));
            left = r.nextInt(3) == 0 ? 26 + r.nextInt(8) : 1 + r.nextInt(12);
            int nested = r.nextInt(3) == 0 ? 55 : 12;
            joined(line, nested, 0);
            while (left > 0 && r.nextInt(8) > 0) {
                line.add(sign());
                joined(line, nested, 0);
            }
            line.add(";");
            return line;
        }

        private String sign() {
            String[] signs = {"or", "and", "+", "-", "*", "/", "%", "+", "-", "*"};
            return signs[r.nextInt(signs.length)];
        }

        /** One or two units, perhaps behind not, which is a whole one; the level is no matter for what can stand. */
        private void joined(List<String> line, int nested, int depth) {
            boolean fresh = line.get(line.size() - 1).matches("likes|or|and|not|\\(");
            while (fresh && depth < 9 && r.nextInt(100) < nested / 2) {
                line.add("not");
                depth++;
            }
            unit(line, nested, depth);
            if (fresh && r.nextInt(6) == 0) {
                line.add(new String[] {"<", ">", "="}[r.nextInt(3)]);
                unit(line, nested, depth);
            }
        }

        private void unit(List<String> line, int nested, int depth) {
            left--;
            if (depth < 9 && r.nextInt(100) < nested) {
                line.add("(");
                joined(line, nested, depth + 1);
                while (left > 0 && r.nextInt(3) == 0) {
                    line.add(sign());
                    joined(line, nested, depth + 1);
                }
                line.add(")");
                return;
            }
            String[] some = {"1", "9999", "0", "manners", "far", "water", "swum", "wants", "step"};
            line.add(some[r.nextInt(some.length)]);
        }
    }

    private static String spaced(List<String> tokens, Random r) {
        StringBuilder text = new StringBuilder();
        for (String t : tokens) {
            boolean behindName = text.length() > 0 && Character.isLetterOrDigit(text.charAt(text.length() - 1));
            if (behindName && Character.isLetterOrDigit(t.charAt(0)) || r.nextInt(9) == 0) {
                text.append(r.nextInt(4) == 0 ? '\n' : ' ');
            }
            text.append(t);
        }
        return text.toString();
    }

    private static final String[] SPOILS = {"pool 3;", "water 1 at 0;", "swimmer bcdefgh manners 1;", "likes 1;", "gala 5;",
        "draw 5;", "pool", "flow", "water", "at", "swimmer", "manners", "wants", "likes", "or", "and", "not", "far", "swum", "step",
        ";", "(", ")", "<", ">", "=", "+", "-", "*", "/", "%", "0", "1", "7", "12", "13", "99", "100", "101", "999", "1000", "9999",
        "00001", "5x", "bob", "abcdefghi", "both", "?", "A", "_", "\t", "\u00e9", " ", "\n"};

    /** A number told anew, a piece put in, one put instead of another, one left out, told twice or cut off, or all blanks left out somewhere. */
    private static String spoiled(String text, Random r) {
        if (text.isEmpty()) {
            return SPOILS[r.nextInt(SPOILS.length)];
        }
        List<Integer> bounds = new ArrayList<>();
        Matcher m = Pattern.compile("[a-z]+|[0-9]+|[^a-z0-9 \n]").matcher(text);
        while (m.find()) {
            bounds.add(m.start());
            bounds.add(m.end());
        }
        if (bounds.isEmpty()) {
            return text + SPOILS[r.nextInt(SPOILS.length)];
        }
        int which = r.nextInt(bounds.size() / 2);
        int from = bounds.get(2 * which);
        int to = bounds.get(2 * which + 1);
        String spoil = SPOILS[r.nextInt(SPOILS.length)];
        String gap = r.nextInt(5) == 0 ? "" : " ";
        if (Character.isDigit(text.charAt(from)) && r.nextBoolean()) {
            int[] edges = {0, 1, 5, 6, 11, 12, 13, 99, 100, 101, 999, 1000};
            return text.substring(0, from) + edges[r.nextInt(edges.length)] + text.substring(to);
        }
        switch (r.nextInt(8)) {
            case 0: case 1:
                return text.substring(0, from) + spoil + gap + text.substring(from);
            case 2: case 3:
                return text.substring(0, from) + spoil + gap + text.substring(to);
            case 4:
                return text.substring(0, from) + gap + text.substring(to);
            case 5:
                return text.substring(0, to) + gap + text.substring(from);
            case 6:
                return text.substring(0, r.nextInt(2) == 0 ? from : r.nextInt(text.length() + 1));
            default:
                int lineEnd = text.indexOf(';', from);
                return lineEnd < 0 ? text : text.substring(0, lineEnd + 1) + spoil + gap + text.substring(lineEnd + 1);
        }
    }
}
