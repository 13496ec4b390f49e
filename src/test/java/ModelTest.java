import java.nio.charset.StandardCharsets;
import java.util.ArrayList;
import java.util.Arrays;
import java.util.List;
import java.util.Random;

/** Random runs of calls, each answer compared with that of a model which tries everything out one by one. */
public final class ModelTest {
    private static final int NONE = PaintedByOthers.NONE;
    private static final int RUNS = 1200;
    private static final int CALLS = 500;
    private static int wrong = 0;

    private static final String[] METHODS = {"most", "window", "yards", "sum", "turn", "keep"};
    private static final String[] FACTS = {"wall", "seers", "all", "great", "colour", "year"};

    /** What is told, and kept by the image. */
    private static final class Told {
        int colours = 3;
        int state = 0;
        int year = 0;
        int[] pots = new int[4];
        List<Integer> painting = new ArrayList<>();
        List<Integer> houses = new ArrayList<>();
        int[][] views = new int[8][7];
        List<int[]> trees = new ArrayList<>();
        int[][] taste = new int[7][4];
        int[][] said = new int[7][4];
        int[] beside = new int[7];
        boolean[][] neighbours = new boolean[7][7];
        List<int[]> deeds = new ArrayList<>();
        int[] looks = new int[9];
        boolean[][] links = new boolean[9][9];
        List<Token> rule = new ArrayList<>();

        Told copy() {
            Told t = new Told();
            t.colours = colours;
            t.state = state;
            t.year = year;
            t.pots = pots.clone();
            t.painting = new ArrayList<>(painting);
            t.houses = new ArrayList<>(houses);
            for (int h = 0; h < 8; h++) t.views[h] = views[h].clone();
            t.trees = new ArrayList<>(trees);
            for (int p = 0; p < 7; p++) {
                t.taste[p] = taste[p].clone();
                t.said[p] = said[p].clone();
                t.neighbours[p] = neighbours[p].clone();
            }
            t.beside = beside.clone();
            t.deeds = new ArrayList<>(deeds);
            t.looks = looks.clone();
            for (int a = 0; a < 9; a++) t.links[a] = links[a].clone();
            t.rule = rule;
            return t;
        }
    }

    private record Token(String text, int place) {
        boolean is(String... words) {
            for (String w : words) if (text.equals(w)) return true;
            return false;
        }
        boolean number() { return text.matches("[0-9]{1,4}"); }
        boolean fact() { return is(FACTS); }
    }

    private static final class Model {
        Told t = new Told();
        Told image = null;
        byte[] tape = new byte[0];
        int fault = 0;
        int place = NONE;

        boolean person(int p) { return p >= 0 && p < t.houses.size(); }
        boolean wall(int w) { return w >= 0 && w < t.painting.size(); }
        boolean colour(int c) { return c >= 0 && c < t.colours; }
        static boolean in(int v, int a, int b) { return v >= a && v <= b; }

        int seen(int house, int wall) {
            int yards = t.views[house][wall];
            for (int[] tree : t.trees) {
                if (tree[0] == house && tree[1] == wall) yards -= (t.year - tree[3]) * tree[2];
            }
            return yards < 0 ? 0 : yards;
        }

        int worth(int p, int house, List<Integer> painting) {
            int sum = 0;
            for (int w = 0; w < painting.size(); w++) sum += seen(house, w) * t.taste[p][painting.get(w)];
            for (int u = 0; u < painting.size(); u++) {
                for (int v = u + 1; v < painting.size(); v++) {
                    if (t.neighbours[u][v] && painting.get(u).equals(painting.get(v))) {
                        sum += t.beside[p] * Math.min(seen(house, u), seen(house, v));
                    }
                }
            }
            return sum;
        }

        int worth(int p, List<Integer> painting) { return worth(p, t.houses.get(p), painting); }

        int favourite(int[] likings) {
            int best = 0;
            for (int c = 0; c < t.colours; c++) if (likings[c] > likings[best]) best = c;
            return best;
        }

        List<Integer> judged(int[][] said) {
            List<Integer> next = new ArrayList<>();
            for (int w = 0; w < t.painting.size(); w++) next.add(judgedWall(said, w));
            return next;
        }

        int judgedWall(int[][] said, int w) {
            List<Integer> seers = new ArrayList<>();
            int all = 0;
            int great = 0;
            for (int p = 0; p < t.houses.size(); p++) {
                int y = seen(t.houses.get(p), w);
                if (y > 0) {
                    seers.add(p);
                    all += y;
                    great = Math.max(great, y);
                }
            }
            int now = t.painting.get(w);
            if (seers.isEmpty()) return now;
            int[] facts = {w, seers.size(), all, great, now, t.year};
            String method = "keep";
            int from = 0;
            for (int i = 0; i < t.rule.size(); i++) {
                if (!t.rule.get(i).is(";")) continue;
                boolean plain = i == from + 2;
                if (plain || holds(t.rule.subList(from + 3, i), facts)) {
                    method = t.rule.get(from + 1).text;
                    break;
                }
                from = i + 1;
            }
            int[] points = new int[4];
            switch (method) {
                case "most":
                    int most = seers.get(0);
                    for (int p : seers) if (seen(t.houses.get(p), w) > seen(t.houses.get(most), w)) most = p;
                    return favourite(said[most]);
                case "turn":
                    int p = (t.year + w) % t.houses.size();
                    return seers.contains(p) ? favourite(said[p]) : now;
                case "keep":
                    return now;
                case "window":
                    for (int q : seers) points[favourite(said[q])]++;
                    return favourite(points);
                case "yards":
                    for (int q : seers) points[favourite(said[q])] += seen(t.houses.get(q), w);
                    return favourite(points);
                default:
                    for (int q : seers) {
                        for (int c = 0; c < t.colours; c++) points[c] += seen(t.houses.get(q), w) * said[q][c];
                    }
                    return favourite(points);
            }
        }

        static int cut(List<Token> s, boolean last, String... words) {
            int depth = 0;
            int found = -1;
            for (int i = 0; i < s.size(); i++) {
                if (s.get(i).is("(")) depth++;
                if (s.get(i).is(")")) depth--;
                if (depth == 0 && s.get(i).is(words) && (last || found < 0)) found = i;
            }
            return found;
        }

        static boolean holds(List<Token> s, int[] facts) {
            int at = cut(s, false, "or");
            if (at >= 0) return holds(s.subList(0, at), facts) | holds(s.subList(at + 1, s.size()), facts);
            at = cut(s, false, "and");
            if (at >= 0) return holds(s.subList(0, at), facts) & holds(s.subList(at + 1, s.size()), facts);
            if (s.get(0).is("not")) return !holds(s.subList(1, s.size()), facts);
            if (s.get(0).is("(")) return holds(s.subList(1, s.size() - 1), facts);
            at = cut(s, false, "<", "=", ">");
            int a = value(s.subList(0, at), facts);
            int b = value(s.subList(at + 1, s.size()), facts);
            return s.get(at).is("<") ? a < b : s.get(at).is("=") ? a == b : a > b;
        }

        static int value(List<Token> s, int[] facts) {
            int at = cut(s, true, "+", "-");
            if (at < 0) at = cut(s, true, "*", "/");
            if (at < 0) {
                if (s.get(0).number()) return Integer.parseInt(s.get(0).text);
                return facts[Arrays.asList(FACTS).indexOf(s.get(0).text)];
            }
            int a = value(s.subList(0, at), facts);
            int b = value(s.subList(at + 1, s.size()), facts);
            switch (s.get(at).text) {
                case "+": return a + b;
                case "-": return a - b;
                case "*": return a * b;
                default: return a / b;
            }
        }

        static List<Token> split(byte[] bytes) {
            List<Token> tokens = new ArrayList<>();
            String s = new String(bytes, StandardCharsets.ISO_8859_1);
            java.util.regex.Matcher m = java.util.regex.Pattern.compile("[a-zA-Z]+|[0-9]+|[^ \n]").matcher(s);
            while (m.find()) tokens.add(new Token(m.group(), m.start()));
            return tokens;
        }

        // A machine that goes from token to token with what is open, without any call into itself.
        static int[] firstFault(List<Token> tokens, int end) {
            List<String> open = new ArrayList<>();
            String state = "by";
            boolean right = false;
            int lines = 0;
            for (int i = 0; i <= tokens.size(); i++) {
                Token k = i < tokens.size() ? tokens.get(i) : new Token("", end);
                int[] here = {1, k.place};
                if (state.equals("by")) {
                    if (i == tokens.size()) return new int[] {0, NONE};
                    if (!k.is("by")) return here;
                    if (++lines > 16) return new int[] {3, k.place};
                    state = "method";
                } else if (state.equals("method")) {
                    if (!k.is(METHODS)) return here;
                    state = "when";
                } else if (state.equals("when")) {
                    if (k.is(";")) state = "by";
                    else if (k.is("when")) state = "condition";
                    else return here;
                } else if (state.equals("condition") && k.is("not", "(")) {
                    if (open.size() == 8) return new int[] {3, k.place};
                    open.add(k.text);
                } else if (state.equals("condition") || state.equals("unit")) {
                    if (state.equals("condition")) right = false;
                    if (!k.number() && !k.fact()) return here;
                    state = "after";
                } else if (state.equals("part")) {
                    if (!k.number()) return here;
                    if (Integer.parseInt(k.text) == 0) return new int[] {2, k.place};
                    state = "after";
                } else if (state.equals("after") && k.is("+", "-", "*")) {
                    state = "unit";
                } else if (state.equals("after") && k.is("/")) {
                    state = "part";
                } else if (state.equals("after") && !right) {
                    if (!k.is("<", "=", ">")) return here;
                    right = true;
                    state = "unit";
                } else {
                    while (!open.isEmpty() && open.get(open.size() - 1).equals("not")) open.remove(open.size() - 1);
                    if (k.is("and", "or")) {
                        state = "condition";
                    } else if (k.is(")") && !open.isEmpty()) {
                        open.remove(open.size() - 1);
                        state = "closed";
                    } else if (k.is(";") && open.isEmpty()) {
                        state = "by";
                    } else {
                        return here;
                    }
                }
            }
            throw new IllegalStateException("the text has no end");
        }

        int text() {
            List<Token> tokens = split(tape);
            int[] found = firstFault(tokens, tape.length);
            tape = new byte[0];
            fault = found[0];
            place = found[1];
            if (fault != 0) return NONE;
            t.rule = tokens;
            return lines();
        }

        int lines() {
            int n = 0;
            for (Token k : t.rule) if (k.is(";")) n++;
            return n;
        }

        int feed(int... numbers) {
            if (tape.length + 20 > 400) return NONE;
            byte[] more = Arrays.copyOf(tape, tape.length + 20);
            java.nio.ByteBuffer.wrap(more, tape.length, 20).putInt(numbers[0]).putInt(numbers[1]).putInt(numbers[2])
                .putInt(numbers[3]).putInt(numbers[4]);
            tape = more;
            return tape.length;
        }

        List<List<Integer>> paintings() {
            List<List<Integer>> all = new ArrayList<>();
            all.add(new ArrayList<>());
            for (int w = 0; w < t.painting.size(); w++) {
                List<List<Integer>> longer = new ArrayList<>();
                for (List<Integer> x : all) {
                    for (int c = 0; c < t.colours; c++) {
                        List<Integer> y = new ArrayList<>(x);
                        y.add(c);
                        longer.add(y);
                    }
                }
                all = longer;
            }
            return all;
        }

        int potsOf(List<Integer> painting) {
            int sum = 0;
            for (int c = 0; c < t.colours; c++) if (painting.contains(c)) sum += t.pots[c];
            return sum;
        }

        int worthsLessPots(List<Integer> painting, int left) {
            int sum = -potsOf(painting);
            for (int p = 0; p < t.houses.size(); p++) if (p != left) sum += worth(p, painting);
            return sum;
        }

        List<Integer> best(int left) {
            List<Integer> best = null;
            int most = 0;
            for (List<Integer> x : paintings()) {
                int v = worthsLessPots(x, left);
                if (best == null || v > most) {
                    best = x;
                    most = v;
                }
            }
            return best;
        }

        int due(int p) { return worthsLessPots(best(p), p) - worthsLessPots(best(NONE), p); }

        int best(int p, boolean lack) {
            if (!lack) return due(p);
            int sum = potsOf(best(NONE));
            for (int q = 0; q < t.houses.size(); q++) sum -= due(q);
            return sum;
        }

        int round(List<Integer> painting) {
            int done = 0;
            for (int p = 0; p < t.houses.size(); p++) {
                for (int q = p + 1; q < t.houses.size(); q++) {
                    if (traded(p, q, painting)) done++;
                }
            }
            return done;
        }

        boolean traded(int p, int q, List<Integer> painting) {
            for (int u = 0; u < painting.size(); u++) {
                for (int v = 0; v < painting.size(); v++) {
                    if (u == v) continue;
                    for (int c = 0; c < t.colours; c++) {
                        for (int d = 0; d < t.colours; d++) {
                            List<Integer> x = new ArrayList<>(painting);
                            x.set(u, c);
                            x.set(v, d);
                            if (worth(p, x) > worth(p, painting) && worth(q, x) > worth(q, painting)) {
                                painting.set(u, c);
                                painting.set(v, d);
                                return true;
                            }
                        }
                    }
                }
            }
            return false;
        }

        int stand() {
            List<Integer> x = new ArrayList<>(t.painting);
            int trades = 0;
            for (int n = 1; n <= 30; n++) {
                int done = round(x);
                if (done == 0) return trades;
                trades += done;
            }
            return NONE;
        }

        int hope(int wall, int colour, int m, int fee, int what) {
            int people = t.houses.size();
            List<Integer> painted = new ArrayList<>(t.painting);
            painted.set(wall, colour);
            List<Integer> sets = new ArrayList<>();
            for (int set = 0; set < 1 << people; set++) {
                boolean stays = true;
                for (int p = 0; p < people; p++) {
                    int other = set ^ 1 << p;
                    if (outcome(p, other, painted, m, fee) > outcome(p, set, painted, m, fee)) stays = false;
                }
                if (stays) sets.add(set);
            }
            return what == 0 ? sets.size() : sets.isEmpty() ? NONE : sets.get(0);
        }

        int outcome(int p, int set, List<Integer> painted, int m, int fee) {
            int w = worth(p, Integer.bitCount(set) >= m ? painted : t.painting);
            return (set >> p & 1) == 1 ? w - fee : w;
        }

        int[] homes;
        int homesSum;

        void homes() {
            homes = null;
            int[][] worths = new int[7][8];
            for (int p = 0; p < t.houses.size(); p++) {
                for (int h = 0; h < 8; h++) worths[p][h] = worth(p, h, t.painting);
            }
            house(0, 0, new int[7], new boolean[8], worths);
        }

        void house(int p, int sum, int[] given, boolean[] taken, int[][] worths) {
            if (p == t.houses.size()) {
                if (homes == null || sum > homesSum) {
                    homes = given.clone();
                    homesSum = sum;
                }
                return;
            }
            for (int h = 0; h < 8; h++) {
                if (taken[h]) continue;
                taken[h] = true;
                given[p] = h;
                house(p + 1, sum + worths[p][h], given, taken, worths);
                taken[h] = false;
            }
        }

        int swap() {
            for (int p = 0; p < t.houses.size(); p++) {
                for (int q = p + 1; q < t.houses.size(); q++) {
                    if (worth(p, t.houses.get(q), t.painting) > worth(p, t.painting)
                        && worth(q, t.houses.get(p), t.painting) > worth(q, t.painting)) {
                        return 10 * p + q;
                    }
                }
            }
            return NONE;
        }

        int must(int p, int a, int b) {
            if (a != b) return above(p, a, b) ? 1 : 0;
            for (int c = 0; c < t.colours; c++) if (above(p, c, c)) return 1;
            return 0;
        }

        boolean above(int p, int a, int b) {
            List<Integer> reached = new ArrayList<>();
            reached.add(a);
            for (int i = 0; i < reached.size(); i++) {
                for (int[] d : t.deeds) {
                    if (d[0] != p || d[1] != reached.get(i)) continue;
                    if (d[2] == b) return true;
                    if (!reached.contains(d[2])) reached.add(d[2]);
                }
            }
            return false;
        }

        List<Integer> way;
        int wayLooks;

        int way(int a, int b, int n, int what) {
            way = null;
            List<Integer> route = new ArrayList<>();
            route.add(a);
            walk(route, b, n);
            if (way == null) return NONE;
            if (what == 0) return wayLooks;
            if (what == 1) return way.size();
            return what >= 10 && what - 10 < way.size() ? way.get(what - 10) : NONE;
        }

        void walk(List<Integer> route, int b, int n) {
            int last = route.get(route.size() - 1);
            if (last == b) {
                int sum = 0;
                for (int place : route) sum += t.looks[place];
                if (way == null || sum > wayLooks || sum == wayLooks && first(route, way)) {
                    way = new ArrayList<>(route);
                    wayLooks = sum;
                }
                return;
            }
            if (route.size() == n) return;
            for (int next = 8; next >= 0; next--) {
                if (!t.links[last][next] || route.contains(next)) continue;
                route.add(next);
                walk(route, b, n);
                route.remove(route.size() - 1);
            }
        }

        static boolean first(List<Integer> a, List<Integer> b) {
            for (int i = 0; i < a.size() && i < b.size(); i++) {
                if (!a.get(i).equals(b.get(i))) return a.get(i) < b.get(i);
            }
            return a.size() < b.size();
        }

        int draw(int m) {
            t.state = t.state * 1664525 + 1013904223;
            return (int) (Integer.toUnsignedLong(t.state) / 256 % m);
        }

        int years(int n) {
            for (int i = 0; i < n; i++) {
                t.year++;
                t.painting = judged(t.said);
                if (t.painting.isEmpty() || t.houses.isEmpty()) continue;
                int p = draw(t.houses.size());
                int w = draw(t.painting.size());
                if (seen(t.houses.get(p), w) > 0) t.painting.set(w, favourite(t.taste[p]));
            }
            return t.year;
        }

        int gains(int p, int what) {
            int honest = worth(p, judged(t.said));
            int best = NONE;
            int most = 0;
            for (int c = 0; c < t.colours; c++) {
                int[][] said = t.said.clone();
                said[p] = new int[] {-9, -9, -9, -9};
                said[p][c] = 9;
                int gain = worth(p, judged(said)) - honest;
                if (gain > most) {
                    most = gain;
                    best = c;
                }
            }
            return what == 0 ? best : most;
        }

        int adopt(List<Integer> painting) {
            int changed = 0;
            for (int w = 0; w < painting.size(); w++) if (!painting.get(w).equals(t.painting.get(w))) changed++;
            t.painting = new ArrayList<>(painting);
            return changed;
        }

        int look(int what) {
            if (what == 0) return t.colours;
            if (what == 1) return t.painting.size();
            if (what == 2) return t.houses.size();
            if (what == 3) return t.trees.size();
            if (what == 4) return lines();
            if (what == 5) return t.year;
            if (what == 6) return t.state;
            if (what == 7) return t.deeds.size();
            if (person(what - 10)) return t.houses.get(what - 10);
            if (colour(what - 20)) return t.pots[what - 20];
            return NONE;
        }
    }

    private static final class Run {
        final Random random;
        final PaintedByOthers x = new PaintedByOthers();
        final Model m = new Model();
        final StringBuilder log = new StringBuilder();
        final boolean wild;
        int calls = 0;
        boolean ok = true;

        Run(long seed) {
            random = new Random(seed);
            wild = seed % 4 == 0;
        }

        int pick(int least, int most) { return least + random.nextInt(most - least + 1); }

        // Mostly what can be, at times one beyond, and seldom any number.
        int about(int least, int most) {
            int dice = random.nextInt(wild ? 12 : 60);
            if (dice == 0) return least - 1;
            if (dice == 1) return most + 1;
            if (dice == 2 && wild) return random.nextInt();
            if (dice == 3 && wild) return random.nextBoolean() ? Integer.MIN_VALUE : Integer.MAX_VALUE;
            return most < least ? least : pick(least, most);
        }

        int aPerson() { return about(0, m.t.houses.size() - 1); }
        int aWall() { return about(0, m.t.painting.size() - 1); }
        int aColour() { return about(0, m.t.colours - 1); }
        int aHouse() { return about(0, 7); }
        int aPlace() { return about(0, 8); }

        void same(String call, int got, int want) {
            calls++;
            log.append(call).append(" = ").append(want).append('\n');
            if (got != want && ok) {
                ok = false;
                wrong++;
                System.out.println(log + "but the answer was " + got);
            }
        }

        void same(String call, boolean got, boolean want) { same(call, got ? 1 : 0, want ? 1 : 0); }

        void setUp() {
            if (random.nextInt(3) > 0) colours(pick(2, 4));
            boolean rich = random.nextInt(3) > 0;
            int walls = rich ? pick(3, 7) : pick(0, 4);
            int people = rich ? pick(3, 7) : pick(0, 4);
            for (int w = 0; w < walls; w++) wall(random.nextInt(m.t.colours));
            for (int p = 0; p < people; p++) person(aHouse());
            for (int i = rich ? pick(40, 80) : pick(0, 20); i > 0; i--) view();
            for (int i = rich ? pick(20, 60) : pick(0, 20); i > 0; i--) tell();
            for (int i = pick(0, 15); i > 0; i--) beside();
            if (random.nextBoolean()) for (int i = pick(10, 60); i > 0; i--) link();
        }

        void go() {
            setUp();
            while (calls < CALLS && ok) {
                if (calls < CALLS - 30 && random.nextInt(25) == 0) rule();
                else if (random.nextInt(5) < 3) tellSome();
                else askSome();
            }
        }

        void colours(int c) {
            boolean can = Model.in(c, 2, 4);
            if (can) {
                Told fresh = new Told();
                fresh.state = m.t.state;
                fresh.colours = c;
                m.t = fresh;
            }
            same("colours " + c, x.colours(c), can);
        }

        void wall(int c) {
            boolean can = m.colour(c) && m.t.painting.size() < 7;
            if (can) m.t.painting.add(c);
            same("wall " + c, x.wall(c), can ? m.t.painting.size() - 1 : NONE);
        }

        void person(int h) {
            boolean can = Model.in(h, 0, 7) && m.t.houses.size() < 7 && !m.t.houses.contains(h);
            if (can) m.t.houses.add(h);
            same("person " + h, x.person(h), can ? m.t.houses.size() - 1 : NONE);
        }

        void view() {
            int h = random.nextBoolean() && !m.t.houses.isEmpty() ? m.t.houses.get(random.nextInt(m.t.houses.size())) : aHouse();
            int w = aWall();
            int y = random.nextInt(4) == 0 ? about(0, 3) : about(0, 99);
            boolean can = Model.in(h, 0, 7) && m.wall(w) && Model.in(y, 0, 99);
            if (can) m.t.views[h][w] = y;
            same("view " + h + " " + w + " " + y, x.view(h, w, y), can);
        }

        void tell() {
            int p = aPerson();
            int what = about(0, 2);
            int i = aColour();
            int v = random.nextInt(4) == 0 ? about(-1, 1) : about(-9, 9);
            boolean can = m.person(p) && Model.in(v, -9, 9) && (what == 2 || (what == 0 || what == 1) && m.colour(i));
            if (can && what == 2) m.t.beside[p] = v;
            if (can && what == 0) m.t.taste[p][i] = v;
            if (can && what != 2) m.t.said[p][i] = v;
            same("tell " + p + " " + what + " " + i + " " + v, x.tell(p, what, i, v), can);
        }

        void beside() {
            int u = aWall();
            int v = aWall();
            boolean is = random.nextInt(4) > 0;
            boolean can = m.wall(u) && m.wall(v) && u != v;
            if (can) {
                m.t.neighbours[u][v] = is;
                m.t.neighbours[v][u] = is;
            }
            same("beside " + u + " " + v + " " + is, x.beside(u, v, is), can);
        }

        void link() {
            int a = aPlace();
            int b = aPlace();
            boolean is = random.nextInt(6) > 0;
            boolean can = Model.in(a, 0, 8) && Model.in(b, 0, 8) && a != b;
            if (can) {
                m.t.links[a][b] = is;
                m.t.links[b][a] = is;
            }
            same("link " + a + " " + b + " " + is, x.link(a, b, is), can);
        }

        void tellSome() {
            switch (random.nextInt(19)) {
                case 0: {
                    if (random.nextInt(3) > 0) return;
                    int v = random.nextInt();
                    int was = m.t.state;
                    m.t.state = v;
                    same("state " + v, x.state(v), was);
                    return;
                }
                case 1:
                    if (random.nextInt(40) == 0 && calls < 250) {
                        colours(about(2, 4));
                        setUp();
                    } else if (random.nextInt(8) == 0) {
                        colours(random.nextBoolean() ? 1 : 5);
                    }
                    return;
                case 2: {
                    int c = aColour();
                    int price = random.nextBoolean() ? about(0, 40) : about(0, 999);
                    boolean can = m.colour(c) && Model.in(price, 0, 999);
                    if (can) m.t.pots[c] = price;
                    same("pot " + c + " " + price, x.pot(c, price), can);
                    return;
                }
                case 3: if (random.nextInt(8) == 0) wall(aColour()); return;
                case 4: if (random.nextInt(4) == 0) person(aHouse()); return;
                case 5: {
                    int p = aPerson();
                    int h = aHouse();
                    boolean can = m.person(p) && Model.in(h, 0, 7);
                    if (can) {
                        int other = m.t.houses.indexOf(h);
                        if (other >= 0) m.t.houses.set(other, m.t.houses.get(p));
                        m.t.houses.set(p, h);
                    }
                    same("move " + p + " " + h, x.move(p, h), can);
                    return;
                }
                case 6: case 7: view(); return;
                case 8: {
                    int h = aHouse();
                    int w = aWall();
                    int g = random.nextBoolean() ? about(0, 3) : about(0, 99);
                    boolean can = Model.in(h, 0, 7) && m.wall(w) && Model.in(g, 0, 99) && m.t.trees.size() < 20;
                    if (can) m.t.trees.add(new int[] {h, w, g, m.t.year});
                    same("tree " + h + " " + w + " " + g, x.tree(h, w, g), can ? m.t.trees.size() - 1 : NONE);
                    return;
                }
                case 9: case 10: case 11: tell(); return;
                case 12: beside(); return;
                case 13: {
                    int w = aWall();
                    int c = aColour();
                    boolean can = m.wall(w) && m.colour(c);
                    if (can) m.t.painting.set(w, c);
                    same("paint " + w + " " + c, x.paint(w, c), can);
                    return;
                }
                case 14: {
                    int p = aPerson();
                    int a = aColour();
                    int b = aColour();
                    boolean can = m.person(p) && m.colour(a) && m.colour(b) && a != b && m.t.deeds.size() < 40;
                    if (can) m.t.deeds.add(new int[] {p, a, b});
                    same("deed " + p + " " + a + " " + b, x.deed(p, a, b), can);
                    return;
                }
                case 15: {
                    int place = aPlace();
                    int v = random.nextBoolean() ? about(0, 2) : about(0, 99);
                    boolean can = Model.in(place, 0, 8) && Model.in(v, 0, 99);
                    if (can) m.t.looks[place] = v;
                    same("looks " + place + " " + v, x.looks(place, v), can);
                    return;
                }
                case 16: link(); return;
                case 17: {
                    if (random.nextInt(4) > 0) return;
                    int n = random.nextInt(3) > 0 ? about(1, 4) : about(1, 60);
                    boolean can = Model.in(n, 1, 60) && m.t.year + n <= 999;
                    same("years " + n, x.years(n), can ? m.years(n) : NONE);
                    same("state", x.look(6), m.t.state);
                    return;
                }
                default: {
                    if (random.nextInt(6) > 0) return;
                    boolean taken = random.nextInt(3) == 0;
                    boolean can = taken || m.image != null;
                    if (taken) m.image = m.t.copy();
                    else if (can) m.t = m.image.copy();
                    same("image " + taken, x.image(taken), can);
                }
            }
        }

        void askSome() {
            int what;
            switch (random.nextInt(17)) {
                case 0: {
                    int p = aPerson();
                    int w = aWall();
                    same("sees " + p + " " + w, x.sees(p, w), m.person(p) && m.wall(w) ? m.seen(m.t.houses.get(p), w) : NONE);
                    return;
                }
                case 1: {
                    int p = aPerson();
                    same("worth " + p, x.worth(p), m.person(p) ? m.worth(p, m.t.painting) : NONE - 99999);
                    return;
                }
                case 2: case 3: {
                    int w = aWall();
                    what = random.nextInt(40) == 0 ? 2 : about(0, 1);
                    if (what == 2 && m.t.painting.size() > 5 && random.nextInt(6) > 0) what = 1;
                    boolean can = m.wall(w) && Model.in(what, 0, 2);
                    int want = !can ? NONE : what == 0 ? m.t.painting.get(w) : what == 1 ? m.judged(m.t.said).get(w) : m.best(NONE).get(w);
                    same("colour " + w + " " + what, x.colour(w, what), want);
                    return;
                }
                case 4: {
                    if (random.nextInt(3) > 0) return;
                    what = random.nextInt(20) == 0 ? about(0, 3) : 1;
                    int want = what == 1 ? m.adopt(m.judged(m.t.said)) : what == 2 ? m.adopt(m.best(NONE)) : NONE;
                    same("become " + what, x.become(what), want);
                    return;
                }
                case 5: case 6: {
                    int p = aPerson();
                    what = about(0, 1);
                    boolean can = m.person(p) && Model.in(what, 0, 1);
                    same("gains " + p + " " + what, x.gains(p, what), can ? m.gains(p, what) : NONE - 99999);
                    return;
                }
                case 7: {
                    if (random.nextInt(m.t.painting.size() > 5 ? 60 : 4) > 0) return;
                    what = random.nextInt(3) > 0 ? about(0, 2) : 10 + aPerson();
                    int want = NONE - 99999;
                    if (what == 0) want = m.worthsLessPots(m.best(NONE), NONE);
                    if (what == 1) want = m.potsOf(m.best(NONE));
                    if (what == 2) want = m.best(0, true);
                    if (m.person(what - 10)) want = m.best(what - 10, false);
                    same("best " + what, x.best(what), want);
                    return;
                }
                case 8: {
                    if (random.nextInt(5) > 0) return;
                    same("trade", x.trade(), m.round(m.t.painting));
                    return;
                }
                case 9: if (random.nextInt(12) == 0) same("stand", x.stand(), m.stand()); return;
                case 10: {
                    int w = aWall();
                    int c = aColour();
                    int n = about(1, m.t.houses.size());
                    int fee = random.nextInt(3) > 0 ? about(0, 60) : random.nextBoolean() ? about(0, 9999) : about(0, 0);
                    what = about(0, 1);
                    boolean can = m.wall(w) && m.colour(c) && Model.in(n, 1, m.t.houses.size()) && Model.in(fee, 0, 9999) && Model.in(what, 0, 1);
                    same("hope " + w + " " + c + " " + n + " " + fee + " " + what, x.hope(w, c, n, fee, what), can ? m.hope(w, c, n, fee, what) : NONE - 9);
                    return;
                }
                case 11: {
                    if (random.nextInt(6) > 0) return;
                    what = random.nextInt(3) == 0 ? about(0, 0) : 10 + aPerson();
                    boolean can = what == 0 || m.person(what - 10);
                    if (can) m.homes();
                    same("homes " + what, x.homes(what), !can ? NONE - 99999 : what == 0 ? m.homesSum : m.homes[what - 10]);
                    return;
                }
                case 12: same("swap", x.swap(), m.swap()); return;
                case 13: {
                    int p = aPerson();
                    int a = aColour();
                    int b = aColour();
                    boolean can = m.person(p) && m.colour(a) && m.colour(b);
                    same("must " + p + " " + a + " " + b, x.must(p, a, b), can ? m.must(p, a, b) : NONE);
                    return;
                }
                case 14: {
                    int a = aPlace();
                    int b = aPlace();
                    int n = random.nextInt(4) == 0 ? about(1, 9) : random.nextInt(8) == 0 ? 9 : about(1, 5);
                    what = random.nextBoolean() ? about(0, 1) : about(10, 18);
                    boolean can = Model.in(a, 0, 8) && Model.in(b, 0, 8) && Model.in(n, 1, 9);
                    same("way " + a + " " + b + " " + n + " " + what, x.way(a, b, n, what), can ? m.way(a, b, n, what) : NONE);
                    return;
                }
                default: {
                    what = wild && random.nextBoolean() ? random.nextInt() : pick(-1, 25);
                    same("look " + what, x.look(what), m.look(what));
                }
            }
        }

        void feed(int a, int b, int c, int d, int e) {
            same("feed " + a + " " + b + " " + c + " " + d + " " + e, x.feed(a, b, c, d, e), m.feed(a, b, c, d, e));
        }

        void end(int n) {
            boolean can = n >= 0 && n <= m.tape.length;
            if (can) m.tape = Arrays.copyOf(m.tape, n);
            same("end " + n, x.end(n), can);
        }

        void rule() {
            String text = ruleText();
            log.append("text: ").append(text).append('\n');
            byte[] bytes = text.getBytes(StandardCharsets.ISO_8859_1);
            int fed = Math.min(380, bytes.length);
            byte[] padded = Arrays.copyOf(bytes, (fed + 19) / 20 * 20);
            java.nio.ByteBuffer buffer = java.nio.ByteBuffer.wrap(padded);
            while (buffer.hasRemaining()) feed(buffer.getInt(), buffer.getInt(), buffer.getInt(), buffer.getInt(), buffer.getInt());
            end(fed);
            if (random.nextInt(8) == 0) end(about(0, m.tape.length));
            if (random.nextInt(40) == 0) colours(pick(2, 4));
            same("text", x.text(), m.text());
            same("fault 0", x.fault(0), m.fault);
            same("fault 1", x.fault(1), m.place);
            if (random.nextInt(9) == 0) same("fault 2", x.fault(2), NONE);
            if (random.nextInt(9) == 0) same("end 1", x.end(1), false);
        }

        String ruleText() {
            StringBuilder text = new StringBuilder();
            int lines = random.nextInt(12) == 0 ? pick(14, 18) : pick(0, 3);
            for (int i = 0; i < lines; i++) {
                text.append("by ").append(METHODS[random.nextInt(6)]);
                if (lines < 10 && random.nextInt(4) > 0) text.append(" when ").append(any(random.nextInt(4)));
                text.append(random.nextBoolean() ? ";" : " ; ");
            }
            if (random.nextInt(3) == 0 && text.length() > 0) {
                int at = random.nextInt(text.length());
                String[] odd = {"", " ", "\n", ".", "0", "00000", "x", "(", ")", "not ", "/", "/0", "By", "\u00e9", "\t", ";", "<", " by", " and ", " or "};
                int cut = Math.min(text.length(), at + random.nextInt(3));
                text.replace(at, cut, odd[random.nextInt(odd.length)]);
            }
            return text.toString();
        }

        String any(int depth) { return random.nextInt(3) > 0 ? all(depth) : all(depth) + " or " + all(depth); }

        String all(int depth) { return random.nextInt(3) > 0 ? one(depth) : one(depth) + " and " + one(depth); }

        String one(int depth) {
            if (depth > 0 && random.nextInt(3) == 0) return "not ".repeat(pick(1, random.nextInt(10) == 0 ? 6 : 2)) + one(depth - 1);
            if (depth > 0 && random.nextInt(2) == 0) {
                int n = pick(1, random.nextInt(6) == 0 ? 6 : 1);
                return "(".repeat(n) + any(depth - 1) + ")".repeat(n);
            }
            return sum() + "<=>".charAt(random.nextInt(3)) + sum();
        }

        String sum() {
            StringBuilder s = new StringBuilder(product());
            for (int i = random.nextInt(3); i > 0; i--) s.append(random.nextBoolean() ? "+" : " - ").append(product());
            return s.toString();
        }

        String product() {
            StringBuilder s = new StringBuilder(unit());
            for (int i = random.nextInt(5) - 2; i > 0; i--) {
                if (random.nextBoolean()) s.append("*").append(unit());
                else s.append(" / ").append(random.nextInt(15) == 0 ? "00" : "" + pick(1, 9));
            }
            return s.toString();
        }

        String unit() {
            if (random.nextBoolean()) return FACTS[random.nextInt(6)];
            return "" + (random.nextInt(4) == 0 ? pick(0, 9999) : pick(0, 9));
        }
    }

    public static void main(String[] args) {
        int runs = args.length > 0 ? Integer.parseInt(args[0]) : RUNS;
        for (int seed = 0; seed < runs && wrong < 5; seed++) new Run(seed).go();
        System.out.println(wrong == 0 ? runs + " runs answered as the model" : wrong + " runs did not answer as the model");
        if (wrong != 0) System.exit(1);
    }
}
