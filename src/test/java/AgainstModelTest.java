import java.util.ArrayList;
import java.util.Arrays;
import java.util.HashMap;
import java.util.List;
import java.util.Map;
import java.util.Random;
import java.util.function.IntUnaryOperator;

/**
 * Random runs of calls, each answer compared with that of a slow model, which was written from the document and
 * shares nothing with the class: whole states that are copied at each STEP, formulas as trees.
 */
public final class AgainstModelTest {
    private static int checks = 0;
    private static int wrong = 0;
    private static StringBuilder trace = new StringBuilder();

    public static void main(String[] args) {
        int runs = args.length > 0 ? Integer.parseInt(args[0]) : 400;
        long from = args.length > 1 ? Long.parseLong(args[1]) : 1;
        for (long seed = from; seed < from + runs && wrong < 5; seed++) {
            run(new Random(seed), seed);
        }
        System.out.println("AgainstModelTest: " + (checks - wrong) + " passed, " + wrong + " failed");
        if (wrong != 0) {
            System.exit(1);
        }
    }

    // ---- formulas ----

    static final class Facts {
        int manners, far, water, swum, wants, step;
    }

    abstract static class Node {
        abstract int of(Facts f);
    }

    static Node leaf(String word, int number) {
        return new Node() {
            int of(Facts f) {
                switch (word) {
                    case "manners": return f.manners;
                    case "far": return f.far;
                    case "water": return f.water;
                    case "swum": return f.swum;
                    case "wants": return f.wants;
                    case "step": return f.step;
                    default: return number;
                }
            }
        };
    }

    static Node joined(String sign, Node a, Node b) {
        return new Node() {
            int of(Facts f) {
                int x = a.of(f);
                int y = b.of(f);
                switch (sign) {
                    case "or": return (x != 0) | (y != 0) ? 1 : 0;
                    case "and": return (x != 0) & (y != 0) ? 1 : 0;
                    case "<": return x < y ? 1 : 0;
                    case ">": return x > y ? 1 : 0;
                    case "=": return x == y ? 1 : 0;
                    case "+": return (int) ((long) x + y);
                    case "-": return (int) ((long) x - y);
                    case "*": return (int) ((long) x * y);
                    case "/": return y == 0 ? 0 : (int) ((long) x / y);
                    default: return y == 0 ? 0 : (int) ((long) x % y);
                }
            }
        };
    }

    static Node not(Node a) {
        return new Node() {
            int of(Facts f) {
                return a.of(f) == 0 ? 1 : 0;
            }
        };
    }

    /** Makes a random formula and its TOKENS at once. */
    static final class Maker {
        final Random r;
        final List<String> tokens = new ArrayList<>();
        int units = 0;

        Maker(Random r) {
            this.r = r;
        }

        private boolean more(int chance) {
            return units < 24 && r.nextInt(100) < chance;
        }

        Node either(int depth) {
            Node n = both(depth);
            while (more(8)) {
                tokens.add("or");
                n = joined("or", n, both(depth));
            }
            return n;
        }

        Node both(int depth) {
            Node n = one(depth);
            while (more(8)) {
                tokens.add("and");
                n = joined("and", n, one(depth));
            }
            return n;
        }

        Node one(int depth) {
            if (depth < 7 && r.nextInt(100) < 6) {
                tokens.add("not");
                return not(one(depth + 1));
            }
            Node n = sum(depth);
            if (more(10)) {
                String sign = new String[] {"<", ">", "="}[r.nextInt(3)];
                tokens.add(sign);
                n = joined(sign, n, sum(depth));
            }
            return n;
        }

        Node sum(int depth) {
            Node n = term(depth);
            while (more(35)) {
                String sign = r.nextInt(3) == 0 ? "+" : r.nextBoolean() ? "+" : "-";
                tokens.add(sign);
                n = joined(sign, n, term(depth));
            }
            return n;
        }

        Node term(int depth) {
            Node n = unit(depth);
            while (more(20)) {
                String sign = new String[] {"*", "/", "%"}[r.nextInt(3)];
                tokens.add(sign);
                n = joined(sign, n, unit(depth));
            }
            return n;
        }

        Node unit(int depth) {
            units++;
            int kind = r.nextInt(10);
            if (kind == 0 && depth < 7 && units < 24) {
                tokens.add("(");
                Node n = either(depth + 1);
                tokens.add(")");
                return n;
            }
            if (kind <= 2) {
                int number = r.nextInt(4) == 0 ? r.nextInt(10000) : r.nextInt(12);
                tokens.add("" + number);
                return leaf("", number);
            }
            String word = new String[] {"manners", "far", "water", "swum", "wants", "step", "manners"}[r.nextInt(7)];
            tokens.add(word);
            return leaf(word, 0);
        }
    }

    // ---- the model ----

    static final class State {
        int[] water;
        int[] place;
        int[] manners;
        int[] swam;
        int step, seed;

        State copy() {
            State s = new State();
            s.water = water.clone();
            s.place = place.clone();
            s.manners = manners.clone();
            s.swam = swam.clone();
            s.step = step;
            s.seed = seed;
            return s;
        }
    }

    static final class Damp {
        int steps, spot, water, told;
        Integer untold;
        boolean is;
    }

    static final class Model {
        int spots = 6, flow = 9, gala = 0, units = 0, toldSpots = 0, time = 0;
        int[] wants = {};
        Node likes = null;
        State told, now;
        List<State> past = new ArrayList<>();
        List<State> future = new ArrayList<>();
        List<Damp> damps = new ArrayList<>();
        List<Integer> lies = new ArrayList<>();
        Map<Integer, State> boxes = new HashMap<>();

        Model() {
            told = new State();
            told.water = new int[6];
            told.place = told.manners = told.swam = new int[0];
            now = told.copy();
        }

        int count() {
            return wants.length;
        }

        int liking(State s, int who, int from) {
            Facts f = new Facts();
            f.manners = s.manners[who];
            f.far = Math.abs(s.place[who] - from);
            f.water = s.water[s.place[who]];
            f.swum = s.swam[who];
            f.wants = wants[who];
            f.step = s.step;
            return likes == null ? f.manners - f.far : likes.of(f);
        }

        int prefers(State s, int from) {
            int best = -1;
            for (int who = 0; who < count(); who++) {
                if (s.place[who] >= 0 && liking(s, who, from) > 0
                        && (best < 0 || liking(s, who, from) > liking(s, best, from))) {
                    best = who;
                }
            }
            return best;
        }

        /** How much goes from where to where, as {from, to, much}. */
        List<int[]> goings(State s, boolean festive) {
            List<int[]> all = new ArrayList<>();
            for (int from = 0; from < spots; from++) {
                int who = prefers(s, from);
                int much = Math.min(s.water[from], festive ? flow * 2 : flow);
                if (who >= 0 && s.place[who] != from && much > 0) {
                    all.add(new int[] {from, from + Integer.signum(s.place[who] - from), much});
                }
            }
            return all;
        }

        State after(State s, boolean festive) {
            State t = s.copy();
            for (int[] g : goings(s, festive)) {
                t.water[g[0]] -= g[2];
                t.water[g[1]] += g[2];
            }
            for (int who = 0; who < count(); who++) {
                if (swimsBy(s, t, who)) {
                    t.swam[who]++;
                }
            }
            t.step++;
            return t;
        }

        boolean swimsBy(State s, State t, int who) {
            return t.place[who] >= 0 && t.water[t.place[who]] >= wants[who];
        }

        State earnest(State s) {
            State t = s.copy();
            t.seed = (s.seed * 137 + 71) % 1000;
            return after(t, t.seed % 100 < gala);
        }

        State ahead(State s, int n) {
            State t = s;
            for (int i = 0; i < n; i++) {
                t = after(t, false);
            }
            return t;
        }

        int often(State s, int n, int who) {
            return ahead(s, n).swam[who] - s.swam[who];
        }

        int oftenAll(State s, int n) {
            int sum = 0;
            State t = ahead(s, n);
            for (int who = 0; who < count(); who++) {
                sum += t.swam[who] - s.swam[who];
            }
            return sum;
        }

        State standing(State s, int who, int where) {
            State t = s.copy();
            t.place[who] = where;
            return t;
        }

        State mannered(State s, int who, int manners) {
            State t = s.copy();
            t.manners[who] = manners;
            return t;
        }

        State watered(State s, int spot, int water) {
            State t = s.copy();
            t.water[spot] = water;
            return t;
        }

        boolean spotOk(int spot) {
            return spot >= 0 && spot < spots;
        }

        boolean whoOk(int who) {
            return who >= 0 && who < count();
        }

        boolean in(int who) {
            return whoOk(who) && now.place[who] >= 0;
        }

        static boolean ok(int n, int a, int b) {
            return a <= n && n <= b;
        }

        void act(State next) {
            past.add(now);
            if (past.size() > 40) {
                past.remove(0);
            }
            future.clear();
            now = next;
        }

        int spot(int spot, int what) {
            if (!spotOk(spot) || !ok(what, 0, 2)) return -2;
            if (what == 0) return now.water[spot];
            if (what == 1) return prefers(now, spot);
            int bits = 0;
            for (int who = 0; who < count(); who++) if (now.place[who] == spot) bits += 1 << who;
            return bits;
        }

        int swimmer(int who, int what) {
            if (!whoOk(who) || !ok(what, 0, 4)) return -2;
            switch (what) {
                case 0: return now.place[who];
                case 1: return now.manners[who];
                case 2: return wants[who];
                case 3: return now.swam[who];
                default: return fans(who);
            }
        }

        int fans(int who) {
            int bits = 0;
            for (int s = 0; s < spots; s++) if (prefers(now, s) == who) bits += 1 << s;
            return bits;
        }

        int liking(int who, int spot) {
            return in(who) && spotOk(spot) ? liking(now, who, spot) : -1000000000;
        }

        int step() {
            if (now.step >= 999) return -1;
            State next = earnest(now);
            int bits = 0;
            for (int who = 0; who < count(); who++) if (next.swam[who] > now.swam[who]) bits += 1 << who;
            act(next);
            return bits;
        }

        int stand(int who, int spot) {
            if (!whoOk(who) || !spotOk(spot) || now.place[who] == spot) return -2;
            int was = now.place[who];
            act(standing(now, who, spot));
            return was;
        }

        int leave(int who) {
            if (!in(who)) return -1;
            int was = now.place[who];
            act(standing(now, who, -1));
            return was;
        }

        int pour(int spot, int much) {
            if (!spotOk(spot) || !ok(much, 1, 99) || now.water[spot] + much > 999) return -1;
            act(watered(now, spot, now.water[spot] + much));
            return now.water[spot];
        }

        int drain(int spot, int much) {
            if (!spotOk(spot) || much < 1 || much > now.water[spot]) return -1;
            act(watered(now, spot, now.water[spot] - much));
            return now.water[spot];
        }

        int teach(int who, int manners) {
            if (!whoOk(who) || !ok(manners, 0, 99) || now.manners[who] == manners) return -1;
            int had = now.manners[who];
            act(mannered(now, who, manners));
            return had;
        }

        boolean undo() {
            if (past.isEmpty()) return false;
            future.add(now);
            now = past.remove(past.size() - 1);
            return true;
        }

        boolean redo() {
            if (future.isEmpty()) return false;
            past.add(now);
            now = future.remove(future.size() - 1);
            return true;
        }

        int will(int spot, int n, int what) {
            if (!spotOk(spot) || !ok(n, 0, 60) || !ok(what, 0, 1)) return -1;
            State s = now;
            for (int i = 0; i < n; i++) s = what == 1 ? earnest(s) : after(s, false);
            return s.water[spot];
        }

        int swims(int who, int n) {
            return whoOk(who) && ok(n, 0, 60) ? often(now, n, who) : -1;
        }

        int still() {
            for (int k = 0; k <= 60; k++) if (goings(ahead(now, k), false).isEmpty()) return k;
            return -1;
        }

        /** The first index at which the answer is greatest. */
        static int best(int n, IntUnaryOperator f) {
            int best = -1;
            for (int i = 0; i < n; i++) if (best < 0 || f.applyAsInt(i) > f.applyAsInt(best)) best = i;
            return best;
        }

        int lure(int who, int n, int what) {
            if (!whoOk(who) || !ok(n, 0, 20) || !ok(what, 0, 1)) return -1;
            int[] got = new int[spots];
            for (int s = 0; s < spots; s++) got[s] = ahead(standing(now, who, s), n).water[s];
            int b = best(spots, i -> got[i]);
            return what == 0 ? b : got[b];
        }

        int both(int who, int other, int n, int what) {
            if (!whoOk(who) || !whoOk(other) || who == other || !ok(n, 1, 10) || !ok(what, 0, 2)) return -1;
            int[] got = new int[spots * spots];
            for (int s = 0; s < spots; s++) {
                for (int t = 0; t < spots; t++) {
                    State there = standing(standing(now, who, s), other, t);
                    got[s * spots + t] = often(there, n, who) + often(there, n, other);
                }
            }
            int b = best(spots * spots, i -> got[i]);
            return what == 0 ? b / spots : what == 1 ? b % spots : got[b];
        }

        int bestTurns;

        int orders(int n) {
            lies.clear();
            if (count() == 0 || !ok(n, 1, 3)) return -1;
            bestTurns = -1;
            tryTurns(new ArrayList<>(), now, 0, n);
            return bestTurns;
        }

        private void tryTurns(List<Integer> had, State s, int sum, int n) {
            if (had.size() == count()) {
                if (sum > bestTurns) {
                    bestTurns = sum;
                    lies.clear();
                    lies.addAll(had);
                }
                return;
            }
            for (int who = 0; who < count(); who++) {
                if (!had.contains(who)) {
                    State t = s.copy();
                    Arrays.fill(t.place, -1);
                    t.place[who] = 0;
                    had.add(who);
                    tryTurns(had, ahead(t, n), sum + often(t, n, who), n);
                    had.remove(had.size() - 1);
                }
            }
        }

        int race(int times, int what) {
            if (!ok(times, 1, 20) || !ok(what, 0, 1)) return -1;
            State s = now;
            for (int k = 1; k <= 60; k++) {
                s = after(s, false);
                for (int who = 0; who < count(); who++) {
                    if (s.swam[who] - now.swam[who] == times) return what == 0 ? who : k;
                }
            }
            return -1;
        }

        int court(int who, int spot) {
            if (!in(who) || !spotOk(spot)) return -1;
            for (int m = 0; m < 100; m++) if (prefers(mannered(now, who, m), spot) == who) return m;
            return -1;
        }

        int duel(int who, int other, int n) {
            lies.clear();
            if (who == other || !in(who) || !in(other) || !ok(n, 1, 10)) return -1;
            int rests = 0;
            int[][][] got = new int[6][6][];
            for (int i = 0; i < 6; i++) {
                for (int j = 0; j < 6; j++) {
                    State s = mannered(mannered(now, who, Math.min(99, now.manners[who] + i)),
                        other, Math.min(99, now.manners[other] + j));
                    s = ahead(s, n);
                    got[i][j] = new int[] {s.water[s.place[who]], s.water[s.place[other]]};
                }
            }
            for (int i = 0; i < 6; i++) {
                for (int j = 0; j < 6; j++) {
                    boolean rest = true;
                    for (int k = 0; k < 6; k++) {
                        if (got[k][j][0] * 10 - k > got[i][j][0] * 10 - i) rest = false;
                        if (got[i][k][1] * 10 - k > got[i][j][1] * 10 - j) rest = false;
                    }
                    if (rest && rests == 0) {
                        lies.add(i);
                        lies.add(j);
                    }
                    if (rest) rests++;
                }
            }
            return rests;
        }

        int loss(int who, int n) {
            if (!in(who) || !ok(n, 0, 60)) return -1000000;
            int sum = 0;
            for (int o = 0; o < count(); o++) {
                if (o != who) sum += often(now, n, o) - often(standing(now, who, -1), n, o);
            }
            return sum;
        }

        int earn(int who, int n, int times) {
            if (!whoOk(who) || !ok(n, 0, 60) || !ok(times, 0, 60)) return -1;
            for (int m = 0; m < 100; m++) if (often(mannered(now, who, m), n, who) >= times) return m;
            return -1;
        }

        int alone(int who, int n) {
            if (!whoOk(who) || !ok(n, 0, 60)) return -1;
            State s = now.copy();
            for (int o = 0; o < count(); o++) if (o != who) s.place[o] = -1;
            return often(s, n, who);
        }

        int leader(int n) {
            return ok(n, 0, 60) ? best(count(), i -> often(now, n, i)) : -1;
        }

        int plug(int n, int what) {
            if (!ok(n, 0, 60) || !ok(what, 0, 1)) return -1;
            int[] got = new int[spots];
            for (int s = 0; s < spots; s++) got[s] = now.water[s] == 0 ? -1 : oftenAll(watered(now, s, 0), n);
            int b = best(spots, i -> got[i]);
            return got[b] < 0 ? -1 : what == 0 ? b : got[b];
        }

        int fill(int n, int much, int what) {
            if (!ok(n, 0, 60) || !ok(what, 0, 1) || !ok(much, 1, 99)) return -1;
            int[] got = new int[spots];
            for (int s = 0; s < spots; s++) got[s] = oftenAll(watered(now, s, now.water[s] + much), n);
            int b = best(spots, i -> got[i]);
            return what == 0 ? b : got[b];
        }

        int exchange(int n, int what) {
            if (!ok(n, 0, 60) || !ok(what, 0, 2)) return -1;
            int[] found = null;
            int most = oftenAll(now, n);
            for (int i = 0; i < count(); i++) {
                for (int j = i + 1; j < count(); j++) {
                    if (in(i) && in(j)) {
                        int got = oftenAll(standing(standing(now, i, now.place[j]), j, now.place[i]), n);
                        if (got > most) {
                            most = got;
                            found = new int[] {i, j, got};
                        }
                    }
                }
            }
            return found == null ? -1 : found[what];
        }

        int thin(int n, int what) {
            if (!ok(n, 0, 60) || !ok(what, 0, 1)) return -1;
            for (int many = 0; many <= 5; many++) {
                for (int set = 0; set < 1 << count(); set++) {
                    if (Integer.bitCount(set) == many && thinned(set, n)) return what == 0 ? many : set;
                }
            }
            throw new IllegalStateException();
        }

        private boolean thinned(int set, int n) {
            State s = now;
            for (int who = 0; who < count(); who++) {
                if ((set >> who & 1) == 1) {
                    if (!in(who)) return false;
                    s = standing(s, who, -1);
                }
            }
            for (int who = 0; who < count(); who++) if (s.place[who] >= 0 && often(s, n, who) == 0) return false;
            return true;
        }

        int flood(int spot, int much) {
            if (!spotOk(spot) || !ok(much, 0, 999)) return -1;
            for (int k = 0; k <= 60; k++) if (ahead(now, k).water[spot] >= much) return k;
            return -1;
        }

        int between(int a, int b) {
            if (!spotOk(a) || !spotOk(b)) return -1;
            int sum = 0;
            for (int s = 0; s < spots; s++) if ((s >= a && s <= b) || (s >= b && s <= a)) sum += now.water[s];
            return sum;
        }

        int spread() {
            int first = 0;
            int last = spots - 1;
            while (first < spots && now.water[first] == 0) first++;
            while (last >= 0 && now.water[last] == 0) last--;
            return first > last ? 0 : last - first + 1;
        }

        int drawn() {
            int bits = 0;
            for (int s = 0; s < spots; s++) if (prefers(now, s) >= 0) bits += 1 << s;
            return bits;
        }

        int darling() {
            int b = best(count(), i -> in(i) ? Integer.bitCount(fans(i)) : -1);
            return b < 0 || !in(b) ? -1 : b;
        }

        int dry(int n) {
            if (!ok(n, 0, 60)) return -1;
            int bits = 0;
            for (int who = 0; who < count(); who++) if (in(who) && often(now, n, who) == 0) bits += 1 << who;
            return bits;
        }

        int tide(int spot, int n) {
            if (!spotOk(spot) || !ok(n, 0, 60)) return -1;
            int most = 0;
            for (int k = 0; k <= n; k++) most = Math.max(most, ahead(now, k).water[spot]);
            return most;
        }

        int law(int n, int manners) {
            if (!ok(n, 0, 60) || !ok(manners, 0, 99)) return -1;
            State s = now.copy();
            Arrays.fill(s.manners, manners);
            return oftenAll(s, n);
        }

        int odds(int n, int part) {
            if (!ok(n, 0, 4) || !ok(part, 0, 1)) return -1;
            java.math.BigInteger up = java.math.BigInteger.valueOf(100 - gala).pow(n);
            java.math.BigInteger low = java.math.BigInteger.valueOf(100).pow(n);
            return (part == 0 ? up : low).divide(up.gcd(low)).intValue();
        }

        int damp(int steps, int spot, int water, boolean is) {
            if (!ok(steps, 0, 9) || !spotOk(spot) || !ok(water, 0, 999) || damps.size() >= 30 || count() == 0) return -1;
            Damp d = new Damp();
            d.steps = steps;
            d.spot = spot;
            d.water = water;
            d.is = is;
            d.told = time;
            damps.add(d);
            return damps.size() - 1;
        }

        boolean untell(int i) {
            if (i < 0 || i >= damps.size() || damps.get(i).untold != null) return false;
            damps.get(i).untold = time;
            return true;
        }

        int later(int by) {
            if (!ok(by, 0, 1000) || time + by > 100000) return -1;
            return time += by;
        }

        List<Integer> fitting(int k) {
            List<Integer> all = new ArrayList<>();
            for (int m = 0; m < 100 && count() > 0; m++) {
                boolean so = true;
                for (Damp d : damps) {
                    boolean counts = d.told <= k && !(d.untold != null && d.untold <= k);
                    if (counts && (then(m, d.steps).water[d.spot] >= d.water) != d.is) so = false;
                }
                if (so) all.add(m);
            }
            return all;
        }

        State then(int m, int steps) {
            return ahead(mannered(told, count() - 1, m), steps);
        }

        int sure(int what, int k) {
            List<Integer> f = fitting(k);
            if (!ok(what, 0, 1) || f.isEmpty()) return -1;
            return what == 0 ? f.get(0) : f.get(f.size() - 1);
        }

        int ask(int steps, int what, int k) {
            List<Integer> f = fitting(k);
            if (!ok(steps, 0, 9) || !ok(what, 0, 1) || f.isEmpty()) return -1;
            int[] left = new int[spots];
            for (int s = 0; s < spots; s++) {
                Map<Integer, Integer> classes = new HashMap<>();
                for (int m : f) classes.merge(then(m, steps).water[s], 1, Integer::sum);
                for (int c : classes.values()) left[s] = Math.max(left[s], c);
            }
            int b = best(spots, i -> -left[i]);
            return what == 0 ? b : left[b];
        }

        int image(int box) {
            if (!ok(box, 0, 2)) return -1;
            boxes.put(box, now);
            return now.step;
        }

        int back(int box) {
            if (!boxes.containsKey(box)) return -1;
            now = boxes.get(box);
            past.clear();
            future.clear();
            return now.step;
        }

        int about(int what, int tape) {
            int inside = 0;
            for (int who = 0; who < count(); who++) if (in(who)) inside += 1 << who;
            int[] all = {count(), spots, flow, inside, Arrays.stream(now.water).sum(), now.step, now.seed, past.size(),
                future.size(), damps.size(), time, tape, units, lies.size(), gala, toldSpots};
            return ok(what, 0, 15) ? all[what] : -1;
        }
    }

    // ---- random baths and runs ----

    static String spaced(Random r, List<String> tokens) {
        StringBuilder text = new StringBuilder();
        String before = ";";
        boolean airy = r.nextBoolean();
        for (String t : tokens) {
            char last = before.charAt(before.length() - 1);
            boolean wordBefore = Character.isLetter(last);
            boolean numberBefore = Character.isDigit(last);
            boolean must = wordBefore && Character.isLetter(t.charAt(0))
                || numberBefore && Character.isLetterOrDigit(t.charAt(0));
            if (must || airy && r.nextInt(3) == 0) {
                text.append(r.nextInt(4) == 0 ? '\n' : ' ');
            }
            text.append(t);
            before = t;
        }
        return text.toString();
    }

    static int draw(Random r, int most) {
        return r.nextInt(most + 1);
    }

    /** Makes a random BATH in the model and answers its text. */
    static String makeBath(Random r, Model m) {
        List<String> tokens = new ArrayList<>();
        m.spots = 6;
        m.flow = 9;
        if (r.nextInt(6) > 0) {
            m.spots = 1 + draw(r, r.nextInt(3) == 0 ? 11 : 6);
            tokens.addAll(List.of("pool", "" + m.spots));
            if (r.nextInt(4) > 0) {
                m.flow = 1 + draw(r, r.nextInt(4) == 0 ? 98 : 7);
                tokens.addAll(List.of("flow", "" + m.flow));
            }
            tokens.add(";");
        }
        m.told = new State();
        m.told.water = new int[m.spots];
        m.toldSpots = 0;
        List<List<String>> lines = new ArrayList<>();
        for (int s = 0; s < m.spots; s++) {
            if (r.nextInt(5) > 1) {
                m.told.water[s] = draw(r, r.nextInt(4) == 0 ? 99 : 20);
                m.toldSpots |= 1 << s;
                lines.add(List.of("water", "" + m.told.water[s], "at", "" + s, ";"));
            }
        }
        m.likes = null;
        m.units = 0;
        if (r.nextInt(5) > 1) {
            Maker maker = new Maker(r);
            m.likes = maker.either(0);
            m.units = maker.units;
            List<String> line = new ArrayList<>(List.of("likes"));
            line.addAll(maker.tokens);
            line.add(";");
            lines.add(line);
        }
        m.gala = 0;
        if (r.nextInt(3) > 0) {
            m.gala = draw(r, 100);
            lines.add(List.of("gala", "" + m.gala, ";"));
        }
        if (r.nextInt(3) > 0) {
            m.told.seed = draw(r, 999);
            lines.add(List.of("draw", "" + m.told.seed, ";"));
        }
        java.util.Collections.shuffle(lines, r);
        int count = draw(r, 5);
        m.wants = new int[count];
        m.told.place = new int[count];
        m.told.manners = new int[count];
        m.told.swam = new int[count];
        int where = 0;
        for (int who = 0; who < count; who++) {
            List<String> line = new ArrayList<>();
            m.told.manners[who] = draw(r, r.nextInt(4) == 0 ? 99 : 14);
            line.addAll(List.of("swimmer", (char) ('a' + who) + "name", "manners", "" + m.told.manners[who]));
            m.wants[who] = 1;
            if (r.nextInt(4) > 0) {
                m.wants[who] = draw(r, r.nextInt(4) == 0 ? 99 : 20);
                line.addAll(List.of("wants", "" + m.wants[who]));
            }
            m.told.place[who] = -1;
            if (r.nextInt(5) > 0) {
                m.told.place[who] = draw(r, m.spots - 1);
                line.addAll(List.of("at", "" + m.told.place[who]));
            }
            line.add(";");
            where = where + r.nextInt(lines.size() - where + 1);
            lines.add(where, line);
            where++;
        }
        for (List<String> line : lines) {
            tokens.addAll(line);
        }
        m.now = m.told.copy();
        m.past.clear();
        m.future.clear();
        m.damps.clear();
        m.lies.clear();
        m.boxes.clear();
        return spaced(r, tokens);
    }

    static void due(String call, long got, long want) {
        checks++;
        trace.append(call).append(" -> ").append(got).append('\n');
        if (got != want) {
            wrong++;
            String all = trace.toString();
            System.out.println("..." + all.substring(Math.max(0, all.length() - 3000)));
            System.out.println(call + " answered " + got + ", due is " + want);
        }
    }

    static void run(Random r, long seed) {
        trace = new StringBuilder("run " + seed + "\n");
        BathWater x = new BathWater();
        Model m = new Model();
        int baths = 1 + r.nextInt(3);
        for (int b = 0; b < baths && wrong == 0; b++) {
            if (r.nextInt(6) > 0 || b > 0) {
                String text = makeBath(r, m);
                trace.append(text).append('\n');
                Texts.feed(x, text);
                due("bath()", x.bath(), m.count());
            }
            int calls = 120;
            for (int i = 0; i < calls && wrong == 0; i++) {
                call(r, x, m);
            }
        }
    }

    static int n(Random r, int most) {
        return r.nextInt(12) == 0 ? r.nextInt(3) == 0 ? most : r.nextInt(2) == 0 ? -1 : most + 1 : draw(r, Math.min(most, 14));
    }

    static int who(Random r, Model m) {
        return r.nextInt(14) == 0 ? r.nextInt(2) == 0 ? -1 : m.count() : draw(r, Math.max(0, m.count() - 1));
    }

    static int where(Random r, Model m) {
        return r.nextInt(14) == 0 ? r.nextInt(2) == 0 ? -1 : m.spots : draw(r, m.spots - 1);
    }

    static int what(Random r, int most) {
        return r.nextInt(14) == 0 ? r.nextInt(2) == 0 ? -1 : most + 1 : draw(r, most);
    }

    static void call(Random r, BathWater x, Model m) {
        int a = who(r, m);
        int b = who(r, m);
        int s = where(r, m);
        int t = where(r, m);
        int w1 = what(r, 1);
        int w2 = what(r, 2);
        int n = n(r, 60);
        int k = draw(r, 6) == 0 ? m.time : m.time - 3 + draw(r, 5);
        int kind = r.nextInt(74);
        switch (kind) {
            case 0: due("spot " + s + " " + w2, x.spot(s, w2), m.spot(s, w2)); break;
            case 1: { int w = what(r, 4); due("swimmer " + a + " " + w, x.swimmer(a, w), m.swimmer(a, w)); break; }
            case 2: due("liking " + a + " " + s, x.liking(a, s), m.liking(a, s)); break;
            case 3: case 4: case 5: case 6: case 7: due("step", x.step(), m.step()); break;
            case 8: case 9: due("stand " + a + " " + s, x.stand(a, s), m.stand(a, s)); break;
            case 10: due("leave " + a, x.leave(a), m.leave(a)); break;
            case 11: case 12: { int v = n(r, 99); due("pour " + s + " " + v, x.pour(s, v), m.pour(s, v)); break; }
            case 13: { int v = n(r, 30); due("drain " + s + " " + v, x.drain(s, v), m.drain(s, v)); break; }
            case 14: case 15: { int v = n(r, 99); due("teach " + a + " " + v, x.teach(a, v), m.teach(a, v)); break; }
            case 16: case 17: case 18: due("undo", x.undo() ? 1 : 0, m.undo() ? 1 : 0); break;
            case 19: case 20: due("redo", x.redo() ? 1 : 0, m.redo() ? 1 : 0); break;
            case 21: case 22: due("will " + s + " " + n + " " + w1, x.will(s, n, w1), m.will(s, n, w1)); break;
            case 23: due("swims " + a + " " + n, x.swims(a, n), m.swims(a, n)); break;
            case 24: due("still", x.still(), m.still()); break;
            case 25: case 26: { int v = n(r, 20); due("lure " + a + " " + v + " " + w1, x.lure(a, v, w1), m.lure(a, v, w1)); break; }
            case 27: case 28: { int v = n(r, 10); due("both " + a + " " + b + " " + v + " " + w2, x.both(a, b, v, w2), m.both(a, b, v, w2)); break; }
            case 29: case 30: {
                int v = n(r, 3);
                due("orders " + v, x.orders(v), m.orders(v));
                lying(x, m);
                break;
            }
            case 31: case 32: { int v = n(r, 20); due("race " + v + " " + w1, x.race(v, w1), m.race(v, w1)); break; }
            case 33: due("court " + a + " " + s, x.court(a, s), m.court(a, s)); break;
            case 34: case 35: case 36: {
                int v = n(r, 10);
                due("duel " + a + " " + b + " " + v, x.duel(a, b, v), m.duel(a, b, v));
                lying(x, m);
                break;
            }
            case 37: case 38: due("loss " + a + " " + n, x.loss(a, n), m.loss(a, n)); break;
            case 39: case 40: {
                int v = r.nextInt(3) == 0 ? n(r, 60) : Math.min(n, draw(r, 6));
                due("earn " + a + " " + n + " " + v, x.earn(a, n, v), m.earn(a, n, v));
                break;
            }
            case 41: due("alone " + a + " " + n, x.alone(a, n), m.alone(a, n)); break;
            case 42: due("leader " + n, x.leader(n), m.leader(n)); break;
            case 43: case 44: due("plug " + n + " " + w1, x.plug(n, w1), m.plug(n, w1)); break;
            case 45: case 46: { int v = n(r, 99); due("fill " + n + " " + v + " " + w1, x.fill(n, v, w1), m.fill(n, v, w1)); break; }
            case 47: case 48: due("exchange " + n + " " + w2, x.exchange(n, w2), m.exchange(n, w2)); break;
            case 49: case 50: due("thin " + n + " " + w1, x.thin(n, w1), m.thin(n, w1)); break;
            case 51: { int v = n(r, 999); due("flood " + s + " " + v, x.flood(s, v), m.flood(s, v)); break; }
            case 52: due("between " + s + " " + t, x.between(s, t), m.between(s, t)); break;
            case 53: due("spread", x.spread(), m.spread()); break;
            case 54: due("drawn", x.drawn(), m.drawn()); break;
            case 55: due("deepest", x.deepest(), Model.best(m.spots, i -> m.now.water[i])); break;
            case 56: due("darling", x.darling(), m.darling()); break;
            case 57: due("dry " + n, x.dry(n), m.dry(n)); break;
            case 58: due("tide " + s + " " + n, x.tide(s, n), m.tide(s, n)); break;
            case 59: { int v = n(r, 99); due("law " + n + " " + v, x.law(n, v), m.law(n, v)); break; }
            case 60: { int v = n(r, 4); due("odds " + v + " " + w1, x.odds(v, w1), m.odds(v, w1)); break; }
            case 61: case 62: case 63: {
                int v = n(r, 9);
                boolean like = r.nextInt(3) > 0 && m.count() > 0 && m.spotOk(s) && v >= 0 && v <= 9;
                int water = like ? m.then(draw(r, 99), v).water[s] : n(r, 999);
                boolean is = r.nextInt(4) > 0;
                due("damp " + v + " " + s + " " + water + " " + is, x.damp(v, s, water, is), m.damp(v, s, water, is));
                break;
            }
            case 64: { int v = draw(r, m.damps.size() + 1) - 1; due("untell " + v, x.untell(v) ? 1 : 0, m.untell(v) ? 1 : 0); break; }
            case 65: { int v = r.nextInt(20) == 0 ? n(r, 1000) : draw(r, 2); due("later " + v, x.later(v), m.later(v)); break; }
            case 66: case 67: due("fits " + k, x.fits(k), m.fitting(k).size()); break;
            case 68: due("sure " + w1 + " " + k, x.sure(w1, k), m.sure(w1, k)); break;
            case 69: case 70: { int v = n(r, 9); due("ask " + v + " " + w1 + " " + k, x.ask(v, w1, k), m.ask(v, w1, k)); break; }
            case 71: due("image " + w2, x.image(w2), m.image(w2)); break;
            case 72: due("back " + w2, x.back(w2), m.back(w2)); break;
            default: for (int i = -1; i < 17; i++) due("about " + i, x.about(i), m.about(i, 0)); break;
        }
    }

    static void lying(BathWater x, Model m) {
        for (int i = -1; i < 6; i++) {
            due("lies " + i, x.lies(i), i >= 0 && i < m.lies.size() ? m.lies.get(i) : -1);
        }
    }
}
