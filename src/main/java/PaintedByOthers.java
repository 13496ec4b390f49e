import java.util.Arrays;

/** A town whose walls are painted by those who look at them; the document's promises 1 to 35. */
public final class PaintedByOthers {
    public static final int NONE = -1;

    private static final int NO_SUM = NONE - 99999;
    private static final int NO_HOPE = NONE - 9;
    // Less than any sum of worths can be.
    private static final int BELOW_ALL = 1 << 31;

    private static final int COLOURS_LEAST = 2;
    private static final int COLOURS_FIRST = 3;
    private static final int COLOURS_MOST = 4;
    private static final int PRICE_MOST = 999;
    private static final int WALLS_MOST = 7;
    private static final int HOUSES = 8;
    private static final int PEOPLE_MOST = 7;
    private static final int TREES_MOST = 20;
    private static final int YARDS_MOST = 99;
    private static final int GROWTH_MOST = 99;
    private static final int LIKING_MOST = 9;
    private static final int FEE_MOST = 9999;
    private static final int DEEDS_MOST = 40;
    private static final int PLACES = 9;
    private static final int LOOKS_MOST = 99;
    private static final int YEAR_MOST = 999;
    private static final int YEARS_AT_ONCE = 60;
    private static final int ROUNDS_MOST = 30;
    private static final int TAPE_MOST = 400;
    private static final int FED_BYTES = 20;
    private static final int FIRST_PART = 10;
    private static final int FIRST_POT = 20;

    private static final int TREE_PARTS = 3;
    private static final int TREE_SPOT = 0;
    private static final int TREE_GROWTH = 1;
    private static final int TREE_CAME = 2;

    private static final int LINES_MOST = 16;
    private static final int OPEN_MOST = 8;
    private static final int DIGITS_MOST = 4;
    // In each of eight open brackets an or and an and may wait, and above them the parts of one comparison.
    private static final int STACK_MOST = 32;

    private static final int FAULT_NONE = 0;
    private static final int FAULT_PLACE = 1;
    private static final int FAULT_ZERO = 2;
    private static final int FAULT_MANY = 3;

    // Keywords in the order of the KEY_ numbers; the blank behind each ends it.
    private static final String KEYWORDS =
        "by when or and not most window yards sum turn keep wall seers all great colour year ";
    private static final String SIGNS = ";+-*/()<=>";

    // Above all signs, whose tokens are their own numbers.
    private static final int KEY_BY = 256;
    private static final int KEY_WHEN = 257;
    private static final int KEY_OR = 258;
    private static final int KEY_AND = 259;
    private static final int KEY_NOT = 260;
    private static final int KEY_MOST = 261;
    private static final int KEY_WINDOW = 262;
    private static final int KEY_YARDS = 263;
    private static final int KEY_SUM = 264;
    private static final int KEY_TURN = 265;
    private static final int KEY_KEEP = 266;
    private static final int KEY_WALL = 267;
    private static final int KEY_YEAR = 272;
    private static final int TOKEN_END = 300;
    private static final int TOKEN_UNKNOWN = 301;
    // A number's token is this and the number.
    private static final int TOKEN_NUMBER = 1000;

    private static final int KIND_SIGN = 0;
    private static final int KIND_BLANK = 1;
    private static final int KIND_LETTER = 2;
    private static final int KIND_DIGIT = 3;

    private static final int FACTS = 6;
    private static final int FACT_WALL = 0;
    private static final int FACT_SEERS = 1;
    private static final int FACT_ALL = 2;
    private static final int FACT_GREAT = 3;
    private static final int FACT_COLOUR = 4;
    private static final int FACT_YEAR = 5;

    // A step of a rule is its kind and, above these four bits, its number.
    private static final int STEP_BITS = 4;
    private static final int STEP_MASK = 15;
    private static final int STEP_NUMBER = 0;
    private static final int STEP_FACT = 1;
    private static final int STEP_PART = 2;
    private static final int STEP_NOT = 3;
    private static final int STEP_PLUS = 4;
    private static final int STEP_MINUS = 5;
    private static final int STEP_TIMES = 6;
    private static final int STEP_LESS = 7;
    private static final int STEP_SAME = 8;
    private static final int STEP_MORE = 9;
    private static final int STEP_AND = 10;
    private static final int STEP_OR = 11;
    private static final int STEP_NONE = 15;

    private final Town town = new Town();
    private final Sight sight = new Sight(town);
    private final Judge judge = new Judge(town, sight);
    private final BestSearch search = new BestSearch(town, sight);
    private final Trader trader = new Trader(town, sight);
    private final Payers payers = new Payers(town, sight);
    private final Movers movers = new Movers(town, sight);
    private final RuleReader reader = new RuleReader();
    private final int[] tape = new int[TAPE_MOST];
    private int tapeLength = 0;
    private int faultKind = FAULT_NONE;
    private int faultPlace = NONE;
    private Town kept = null;

    public PaintedByOthers() {
    }

    public int state(int v) {
        int was = town.state;
        town.state = v;
        return was;
    }

    public boolean colours(int c) {
        if (c < COLOURS_LEAST || c > COLOURS_MOST) {
            return false;
        }
        town.clear(c);
        return true;
    }

    public boolean pot(int colour, int price) {
        if (!town.hasColour(colour) || !isWithin(price, 0, PRICE_MOST)) {
            return false;
        }
        town.pots[colour] = price;
        return true;
    }

    public int wall(int colour) {
        if (!town.hasColour(colour) || town.wallCount >= WALLS_MOST) {
            return NONE;
        }
        town.painting[town.wallCount] = colour;
        town.wallCount++;
        return town.wallCount - 1;
    }

    public int person(int house) {
        if (!isHouse(house) || town.peopleCount >= PEOPLE_MOST || town.livingIn(house) != NONE) {
            return NONE;
        }
        town.houses[town.peopleCount] = house;
        town.peopleCount++;
        return town.peopleCount - 1;
    }

    public boolean move(int p, int house) {
        if (!town.hasPerson(p) || !isHouse(house)) {
            return false;
        }
        int other = town.livingIn(house);
        if (other != NONE) {
            town.houses[other] = town.houses[p];
        }
        town.houses[p] = house;
        return true;
    }

    public boolean view(int house, int wall, int yards) {
        if (!isHouse(house) || !town.hasWall(wall) || !isWithin(yards, 0, YARDS_MOST)) {
            return false;
        }
        town.views[house * WALLS_MOST + wall] = yards;
        return true;
    }

    public int tree(int house, int wall, int growth) {
        if (!isHouse(house) || !town.hasWall(wall) || !isWithin(growth, 0, GROWTH_MOST)) {
            return NONE;
        }
        if (town.treeCount >= TREES_MOST) {
            return NONE;
        }
        int at = town.treeCount * TREE_PARTS;
        town.trees[at + TREE_SPOT] = house * WALLS_MOST + wall;
        town.trees[at + TREE_GROWTH] = growth;
        town.trees[at + TREE_CAME] = town.year;
        town.treeCount++;
        return town.treeCount - 1;
    }

    public boolean tell(int p, int what, int i, int v) {
        if (!town.hasPerson(p) || !isWithin(v, -LIKING_MOST, LIKING_MOST)) {
            return false;
        }
        if (what == 2) {
            town.beside[p] = v;
            return true;
        }
        if ((what != 0 && what != 1) || !town.hasColour(i)) {
            return false;
        }
        if (what == 0) {
            town.taste[p * COLOURS_MOST + i] = v;
        }
        town.said[p * COLOURS_MOST + i] = v;
        return true;
    }

    public boolean beside(int u, int v, boolean is) {
        if (!town.hasWall(u) || !town.hasWall(v) || u == v) {
            return false;
        }
        town.neighbours[u * WALLS_MOST + v] = is ? 1 : 0;
        town.neighbours[v * WALLS_MOST + u] = is ? 1 : 0;
        return true;
    }

    public boolean paint(int wall, int colour) {
        if (!town.hasWall(wall) || !town.hasColour(colour)) {
            return false;
        }
        town.painting[wall] = colour;
        return true;
    }

    public int feed(int a, int b, int c, int d, int e) {
        if (tapeLength + FED_BYTES > TAPE_MOST) {
            return NONE;
        }
        putNumber(a);
        putNumber(b);
        putNumber(c);
        putNumber(d);
        putNumber(e);
        return tapeLength;
    }

    public boolean end(int n) {
        if (!isWithin(n, 0, tapeLength)) {
            return false;
        }
        tapeLength = n;
        return true;
    }

    public int text() {
        boolean read = reader.read(tape, tapeLength);
        tapeLength = 0;
        faultKind = reader.faultKind;
        faultPlace = reader.faultPlace;
        if (!read) {
            return NONE;
        }
        town.rule.copyFrom(reader.draft);
        return town.rule.lineCount;
    }

    public int fault(int what) {
        if (what == 0) {
            return faultKind;
        }
        return what == 1 ? faultPlace : NONE;
    }

    public int sees(int p, int wall) {
        if (!town.hasPerson(p) || !town.hasWall(wall)) {
            return NONE;
        }
        sight.measure();
        return sight.yardsOf(p, wall);
    }

    public int worth(int p) {
        if (!town.hasPerson(p)) {
            return NO_SUM;
        }
        sight.measure();
        return sight.worthTo(p, town.painting);
    }

    public int colour(int wall, int what) {
        if (!town.hasWall(wall) || !isWithin(what, 0, 2)) {
            return NONE;
        }
        return what == 0 ? town.painting[wall] : imagined(what)[wall];
    }

    public int become(int what) {
        if (what != 1 && what != 2) {
            return NONE;
        }
        return adopt(imagined(what));
    }

    public int gains(int p, int what) {
        if (!town.hasPerson(p) || (what != 0 && what != 1)) {
            return NO_SUM;
        }
        judge.weighSayings(p);
        return what == 0 ? judge.bestSaying : judge.bestGain;
    }

    public int best(int what) {
        boolean due = town.hasPerson(what - FIRST_PART);
        if (!due && !isWithin(what, 0, 2)) {
            return NO_SUM;
        }
        int value = search.choose();
        if (what == 0) {
            return value;
        }
        if (what == 1) {
            return search.potsOfChosen();
        }
        return due ? search.dueOf(what - FIRST_PART) : search.lackOfChosen();
    }

    public int trade() {
        sight.measure();
        return trader.round(town.painting);
    }

    public int stand() {
        return trader.tradesTillRest();
    }

    public int hope(int wall, int colour, int m, int fee, int what) {
        if (!town.hasWall(wall) || !town.hasColour(colour)) {
            return NO_HOPE;
        }
        if (!isWithin(m, 1, town.peopleCount) || !isWithin(fee, 0, FEE_MOST) || !isWithin(what, 0, 1)) {
            return NO_HOPE;
        }
        payers.consider(wall, colour, m, fee);
        return what == 0 ? payers.sets : payers.least;
    }

    public int homes(int what) {
        boolean one = town.hasPerson(what - FIRST_PART);
        if (!one && what != 0) {
            return NO_SUM;
        }
        movers.plan();
        return one ? movers.planned[what - FIRST_PART] : movers.greatestSum();
    }

    public int swap() {
        return movers.firstSwap();
    }

    public boolean deed(int p, int took, int other) {
        if (!town.hasPerson(p) || !town.hasColour(took) || !town.hasColour(other) || took == other) {
            return false;
        }
        return town.deeds.add(p, took, other);
    }

    public int must(int p, int a, int b) {
        if (!town.hasPerson(p) || !town.hasColour(a) || !town.hasColour(b)) {
            return NONE;
        }
        town.deeds.follow(p);
        boolean so = a == b ? town.deeds.isTorn() : town.deeds.isAbove(a, b);
        return so ? 1 : 0;
    }

    public boolean looks(int place, int v) {
        if (!isPlace(place) || !isWithin(v, 0, LOOKS_MOST)) {
            return false;
        }
        town.places.looksOf[place] = v;
        return true;
    }

    public boolean link(int a, int b, boolean is) {
        if (!isPlace(a) || !isPlace(b) || a == b) {
            return false;
        }
        town.places.join(a, b, is ? 1 : 0);
        return true;
    }

    public int way(int a, int b, int n, int what) {
        if (!isPlace(a) || !isPlace(b) || !isWithin(n, 1, PLACES)) {
            return NONE;
        }
        Places places = town.places;
        if (!places.findWay(a, b, n)) {
            return NONE;
        }
        if (what == 0) {
            return places.bestLooks;
        }
        if (what == 1) {
            return places.bestLength;
        }
        return isWithin(what, FIRST_PART, FIRST_PART + places.bestLength - 1)
            ? places.bestRoute[what - FIRST_PART] : NONE;
    }

    public int years(int n) {
        if (!isWithin(n, 1, YEARS_AT_ONCE) || town.year + n > YEAR_MOST) {
            return NONE;
        }
        for (int i = 0; i < n; i++) {
            passYear();
        }
        return town.year;
    }

    public boolean image(boolean taken) {
        if (taken) {
            if (kept == null) {
                kept = new Town();
            }
            kept.copyFrom(town);
            return true;
        }
        if (kept == null) {
            return false;
        }
        town.copyFrom(kept);
        return true;
    }

    public int look(int what) {
        switch (what) {
            case 0: return town.colourCount;
            case 1: return town.wallCount;
            case 2: return town.peopleCount;
            case 3: return town.treeCount;
            case 4: return town.rule.lineCount;
            case 5: return town.year;
            case 6: return town.state;
            case 7: return town.deeds.count;
            default: break;
        }
        if (town.hasPerson(what - FIRST_PART)) {
            return town.houses[what - FIRST_PART];
        }
        return town.hasColour(what - FIRST_POT) ? town.pots[what - FIRST_POT] : NONE;
    }

    private static boolean isWithin(int v, int least, int most) {
        return v >= least && v <= most;
    }

    private static boolean isHouse(int house) {
        return isWithin(house, 0, HOUSES - 1);
    }

    private static boolean isPlace(int place) {
        return isWithin(place, 0, PLACES - 1);
    }

    private void putNumber(int number) {
        for (int shift = 24; shift >= 0; shift -= 8) {
            if (tapeLength < tape.length) {
                tape[tapeLength] = (number >>> shift) & 255;
                tapeLength++;
            }
        }
    }

    /** The painting as it is judged (1), or the best one (2). */
    private int[] imagined(int what) {
        if (what == 1) {
            judge.decide(town.said);
            return judge.judged;
        }
        search.choose();
        return search.chosen;
    }

    private int adopt(int[] painting) {
        int changed = 0;
        for (int w = 0; w < town.wallCount; w++) {
            if (town.painting[w] != painting[w]) {
                town.painting[w] = painting[w];
                changed++;
            }
        }
        return changed;
    }

    private void passYear() {
        town.year++;
        judge.decide(town.said);
        adopt(judge.judged);
        passNight();
    }

    private void passNight() {
        if (town.peopleCount == 0 || town.wallCount == 0) {
            return;
        }
        int p = town.draw(town.peopleCount);
        int w = town.draw(town.wallCount);
        if (sight.yardsOf(p, w) > 0) {
            town.painting[w] = town.favourite(town.taste, p);
        }
    }

    /** All that is and was told, as the image keeps it. */
    private static final class Town {
        int colourCount = COLOURS_FIRST;
        int state = 0;
        int year = 0;
        int wallCount = 0;
        int peopleCount = 0;
        int treeCount = 0;
        final int[] pots = new int[COLOURS_MOST];
        final int[] painting = new int[WALLS_MOST];
        final int[] houses = new int[PEOPLE_MOST];
        final int[] views = new int[HOUSES * WALLS_MOST];
        final int[] trees = new int[TREES_MOST * TREE_PARTS];
        final int[] taste = new int[PEOPLE_MOST * COLOURS_MOST];
        final int[] said = new int[PEOPLE_MOST * COLOURS_MOST];
        final int[] beside = new int[PEOPLE_MOST];
        final int[] neighbours = new int[WALLS_MOST * WALLS_MOST];
        final Rule rule = new Rule();
        final Deeds deeds = new Deeds();
        final Places places = new Places();

        /** All as at first, but the state of draws. */
        void clear(int newColourCount) {
            colourCount = newColourCount;
            year = 0;
            wallCount = 0;
            peopleCount = 0;
            treeCount = 0;
            Arrays.fill(pots, 0);
            Arrays.fill(views, 0);
            Arrays.fill(taste, 0);
            Arrays.fill(said, 0);
            Arrays.fill(beside, 0);
            Arrays.fill(neighbours, 0);
            rule.clear();
            deeds.clear();
            places.clear();
        }

        void copyFrom(Town other) {
            colourCount = other.colourCount;
            state = other.state;
            year = other.year;
            wallCount = other.wallCount;
            peopleCount = other.peopleCount;
            treeCount = other.treeCount;
            System.arraycopy(other.pots, 0, pots, 0, pots.length);
            System.arraycopy(other.painting, 0, painting, 0, painting.length);
            System.arraycopy(other.houses, 0, houses, 0, houses.length);
            System.arraycopy(other.views, 0, views, 0, views.length);
            System.arraycopy(other.trees, 0, trees, 0, trees.length);
            System.arraycopy(other.taste, 0, taste, 0, taste.length);
            System.arraycopy(other.said, 0, said, 0, said.length);
            System.arraycopy(other.beside, 0, beside, 0, beside.length);
            System.arraycopy(other.neighbours, 0, neighbours, 0, neighbours.length);
            rule.copyFrom(other.rule);
            deeds.copyFrom(other.deeds);
            places.copyFrom(other.places);
        }

        boolean hasColour(int c) {
            return c >= 0 && c < colourCount;
        }

        boolean hasWall(int w) {
            return w >= 0 && w < wallCount;
        }

        boolean hasPerson(int p) {
            return p >= 0 && p < peopleCount;
        }

        int livingIn(int house) {
            for (int p = 0; p < peopleCount; p++) {
                if (houses[p] == house) {
                    return p;
                }
            }
            return NONE;
        }

        int draw(int m) {
            state = 1664525 * state + 1013904223;
            return m > 0 ? (state >>> 8) % m : 0;
        }

        /** The colour that one likes most, by what is said or by true tastes. */
        int favourite(int[] likings, int p) {
            int row = p * COLOURS_MOST;
            int best = 0;
            for (int c = 1; c < colourCount; c++) {
                if (likings[row + c] > likings[row + best]) {
                    best = c;
                }
            }
            return best;
        }
    }

    /** What people did: which colour each of them took rather than which. */
    private static final class Deeds {
        int count = 0;
        final int[] taken = new int[PEOPLE_MOST * COLOURS_MOST * COLOURS_MOST];
        final int[] above = new int[COLOURS_MOST * COLOURS_MOST];

        void clear() {
            count = 0;
            Arrays.fill(taken, 0);
        }

        void copyFrom(Deeds other) {
            count = other.count;
            System.arraycopy(other.taken, 0, taken, 0, taken.length);
        }

        boolean add(int p, int took, int other) {
            if (count >= DEEDS_MOST) {
                return false;
            }
            taken[(p * COLOURS_MOST + took) * COLOURS_MOST + other] = 1;
            count++;
            return true;
        }

        /** Draws from the deeds of one all that must be by rows of them. */
        void follow(int p) {
            System.arraycopy(taken, p * above.length, above, 0, above.length);
            for (int by = 0; by < COLOURS_MOST; by++) {
                for (int a = 0; a < COLOURS_MOST; a++) {
                    for (int b = 0; b < COLOURS_MOST; b++) {
                        if (isAbove(a, by) && isAbove(by, b)) {
                            above[a * COLOURS_MOST + b] = 1;
                        }
                    }
                }
            }
        }

        boolean isAbove(int a, int b) {
            return above[a * COLOURS_MOST + b] == 1;
        }

        boolean isTorn() {
            for (int c = 0; c < COLOURS_MOST; c++) {
                if (isAbove(c, c)) {
                    return true;
                }
            }
            return false;
        }
    }

    /** Places with their looks and links, and the way of most looks over them. */
    private static final class Places {
        final int[] looksOf = new int[PLACES];
        final int[] links = new int[PLACES * PLACES];
        final int[] route = new int[PLACES];
        final int[] bestRoute = new int[PLACES];
        int goal = 0;
        int lengthMost = 0;
        int bestLooks = NONE;
        int bestLength = 0;

        void clear() {
            Arrays.fill(looksOf, 0);
            Arrays.fill(links, 0);
        }

        void copyFrom(Places other) {
            System.arraycopy(other.looksOf, 0, looksOf, 0, looksOf.length);
            System.arraycopy(other.links, 0, links, 0, links.length);
        }

        void join(int a, int b, int joined) {
            links[a * PLACES + b] = joined;
            links[b * PLACES + a] = joined;
        }

        boolean findWay(int from, int to, int placesMost) {
            goal = to;
            lengthMost = placesMost;
            bestLooks = NONE;
            bestLength = 0;
            walk(from, 0, 0, 0);
            return bestLength > 0;
        }

        private void walk(int place, int depth, int looksBefore, int visited) {
            if (depth >= lengthMost || depth >= route.length) {
                return;
            }
            route[depth] = place;
            int looksNow = looksBefore + looksOf[place];
            if (place == goal) {
                keepRoute(depth + 1, looksNow);
                return;
            }
            int visitedNow = visited | 1 << place;
            for (int next = 0; next < PLACES; next++) {
                if (links[place * PLACES + next] == 1 && (visitedNow >> next & 1) == 0) {
                    walk(next, depth + 1, looksNow, visitedNow);
                }
            }
        }

        // Ways come in their order, so that the first of several stays.
        private void keepRoute(int length, int looksNow) {
            if (looksNow > bestLooks) {
                bestLooks = looksNow;
                bestLength = length;
                System.arraycopy(route, 0, bestRoute, 0, length);
            }
        }
    }

    /** A rule that was read: of each line its method, and the steps of its condition, parts before what joins them. */
    private static final class Rule {
        int lineCount = 0;
        int stepCount = 0;
        final int[] methods = new int[LINES_MOST];
        final int[] stepEnds = new int[LINES_MOST];
        final int[] steps = new int[TAPE_MOST];

        void clear() {
            lineCount = 0;
            stepCount = 0;
        }

        void copyFrom(Rule other) {
            lineCount = other.lineCount;
            stepCount = other.stepCount;
            System.arraycopy(other.methods, 0, methods, 0, methods.length);
            System.arraycopy(other.stepEnds, 0, stepEnds, 0, stepEnds.length);
            System.arraycopy(other.steps, 0, steps, 0, steps.length);
        }

        // Every step stands for a byte of the text at least, so that none is ever left out.
        void addStep(int kind, int number) {
            if (kind != STEP_NONE && stepCount < steps.length) {
                steps[stepCount] = number << STEP_BITS | kind;
                stepCount++;
            }
        }

        void addLine(int method) {
            if (lineCount < LINES_MOST) {
                methods[lineCount] = method;
                stepEnds[lineCount] = stepCount;
                lineCount++;
            }
        }

        int stepsFrom(int line) {
            return line > 0 && line <= LINES_MOST ? stepEnds[line - 1] : 0;
        }
    }

    /** Reads a text into a draft of a rule, or tells its first fault. */
    private static final class RuleReader {
        final Rule draft = new Rule();
        int faultKind = FAULT_NONE;
        int faultPlace = NONE;
        private final int[] tokens = new int[TAPE_MOST + 1];
        private final int[] tokenPlaces = new int[TAPE_MOST + 1];
        private int tokenCount = 0;
        private int at = 0;
        private int token = TOKEN_END;

        boolean read(int[] bytes, int length) {
            faultKind = FAULT_NONE;
            faultPlace = NONE;
            draft.clear();
            split(bytes, Math.min(length, Math.min(bytes.length, TAPE_MOST)));
            at = 0;
            token = tokens[0];
            for (int line = 0; line <= LINES_MOST; line++) {
                if (token == TOKEN_END) {
                    return true;
                }
                if (!readLine(line)) {
                    return false;
                }
            }
            return false;
        }

        private void advance() {
            if (at + 1 < tokenCount) {
                at++;
            }
            token = tokens[at];
        }

        private boolean refuse(int kind) {
            faultKind = kind;
            faultPlace = tokenPlaces[at];
            return false;
        }

        private boolean readLine(int line) {
            if (token != KEY_BY) {
                return refuse(FAULT_PLACE);
            }
            if (line >= LINES_MOST) {
                return refuse(FAULT_MANY);
            }
            advance();
            int method = token;
            if (method < KEY_MOST || method > KEY_KEEP) {
                return refuse(FAULT_PLACE);
            }
            advance();
            if (token == KEY_WHEN) {
                advance();
                if (!readAny(0)) {
                    return false;
                }
            }
            if (token != ';') {
                return refuse(FAULT_PLACE);
            }
            advance();
            draft.addLine(method);
            return true;
        }

        private boolean readAny(int open) {
            if (!readAll(open)) {
                return false;
            }
            for (int n = 0; n < tokenCount && token == KEY_OR; n++) {
                advance();
                if (!readAll(open)) {
                    return false;
                }
                draft.addStep(STEP_OR, 0);
            }
            return true;
        }

        private boolean readAll(int open) {
            if (!readOne(open)) {
                return false;
            }
            for (int n = 0; n < tokenCount && token == KEY_AND; n++) {
                advance();
                if (!readOne(open)) {
                    return false;
                }
                draft.addStep(STEP_AND, 0);
            }
            return true;
        }

        private boolean readOne(int open) {
            boolean not = token == KEY_NOT;
            if (!not && token != '(') {
                return readComparison();
            }
            if (open >= OPEN_MOST) {
                return refuse(FAULT_MANY);
            }
            advance();
            return not ? readDenied(open + 1) : readBracket(open + 1);
        }

        private boolean readDenied(int open) {
            if (!readOne(open)) {
                return false;
            }
            draft.addStep(STEP_NOT, 0);
            return true;
        }

        private boolean readBracket(int open) {
            if (!readAny(open)) {
                return false;
            }
            if (token != ')') {
                return refuse(FAULT_PLACE);
            }
            advance();
            return true;
        }

        private boolean readComparison() {
            if (!readSum()) {
                return false;
            }
            int sign = token;
            if (sign != '<' && sign != '=' && sign != '>') {
                return refuse(FAULT_PLACE);
            }
            advance();
            if (!readSum()) {
                return false;
            }
            draft.addStep(sign == '<' ? STEP_LESS : sign == '=' ? STEP_SAME : STEP_MORE, 0);
            return true;
        }

        // A plus or minus waits till the products behind it are read.
        private boolean readSum() {
            if (!readUnit()) {
                return false;
            }
            int waiting = STEP_NONE;
            for (int n = 0; n < tokenCount && isJoining(token); n++) {
                int sign = token;
                if (sign == '+' || sign == '-') {
                    draft.addStep(waiting, 0);
                    waiting = sign == '+' ? STEP_PLUS : STEP_MINUS;
                }
                advance();
                if (sign == '/' ? !readPart() : !readUnit()) {
                    return false;
                }
                if (sign == '*') {
                    draft.addStep(STEP_TIMES, 0);
                }
            }
            draft.addStep(waiting, 0);
            return true;
        }

        private boolean readUnit() {
            if (token >= TOKEN_NUMBER) {
                draft.addStep(STEP_NUMBER, token - TOKEN_NUMBER);
            } else if (token >= KEY_WALL && token <= KEY_YEAR) {
                draft.addStep(STEP_FACT, token - KEY_WALL);
            } else {
                return refuse(FAULT_PLACE);
            }
            advance();
            return true;
        }

        private boolean readPart() {
            if (token < TOKEN_NUMBER) {
                return refuse(FAULT_PLACE);
            }
            if (token == TOKEN_NUMBER) {
                return refuse(FAULT_ZERO);
            }
            draft.addStep(STEP_PART, token - TOKEN_NUMBER);
            advance();
            return true;
        }

        private static boolean isJoining(int token) {
            return token == '+' || token == '-' || token == '*' || token == '/';
        }

        // What is no token is kept as one that can stand nowhere, so that faults come by their places.
        private void split(int[] bytes, int length) {
            tokenCount = 0;
            int from = 0;
            while (from < length) {
                int kind = kindOf(bytes[from]);
                int to = from + 1;
                while (to < length && kind != KIND_SIGN && kindOf(bytes[to]) == kind) {
                    to++;
                }
                if (kind != KIND_BLANK) {
                    addToken(tokenOf(kind, bytes, from, to), from);
                }
                from = to;
            }
            addToken(TOKEN_END, length);
        }

        private void addToken(int newToken, int place) {
            if (tokenCount < tokens.length) {
                tokens[tokenCount] = newToken;
                tokenPlaces[tokenCount] = place;
                tokenCount++;
            }
        }

        private static int kindOf(int sign) {
            if (sign == ' ' || sign == '\n') {
                return KIND_BLANK;
            }
            if (sign >= 'a' && sign <= 'z' || sign >= 'A' && sign <= 'Z') {
                return KIND_LETTER;
            }
            return sign >= '0' && sign <= '9' ? KIND_DIGIT : KIND_SIGN;
        }

        private static int tokenOf(int kind, int[] bytes, int from, int to) {
            if (kind == KIND_LETTER) {
                return keywordAt(bytes, from, to);
            }
            if (kind == KIND_DIGIT) {
                return numberAt(bytes, from, to);
            }
            return SIGNS.indexOf((char) bytes[from]) >= 0 ? bytes[from] : TOKEN_UNKNOWN;
        }

        private static int numberAt(int[] bytes, int from, int to) {
            if (to - from > DIGITS_MOST) {
                return TOKEN_UNKNOWN;
            }
            int number = 0;
            for (int i = from; i < to; i++) {
                number = number * 10 + bytes[i] - '0';
            }
            return TOKEN_NUMBER + number;
        }

        private static int keywordAt(int[] bytes, int from, int to) {
            int key = KEY_BY;
            int begin = 0;
            for (int i = 0; i < KEYWORDS.length(); i++) {
                if (KEYWORDS.charAt(i) == ' ') {
                    if (i - begin == to - from && isKeyword(begin, i, bytes, from)) {
                        return key;
                    }
                    key++;
                    begin = i + 1;
                }
            }
            return TOKEN_UNKNOWN;
        }

        private static boolean isKeyword(int begin, int finish, int[] bytes, int from) {
            for (int i = begin; i < finish; i++) {
                if (KEYWORDS.charAt(i) != bytes[from + i - begin]) {
                    return false;
                }
            }
            return true;
        }
    }

    /** Yards behind the trees as they are now, and what paintings are worth by them. */
    private static final class Sight {
        private final Town town;
        private final int[] yards = new int[HOUSES * WALLS_MOST];

        Sight(Town town) {
            this.town = town;
        }

        /** Looks at views and trees anew; whoever asks for yards or worths calls it before. */
        void measure() {
            System.arraycopy(town.views, 0, yards, 0, yards.length);
            for (int t = 0; t < town.treeCount; t++) {
                int at = t * TREE_PARTS;
                int age = town.year - town.trees[at + TREE_CAME];
                yards[town.trees[at + TREE_SPOT]] -= age * town.trees[at + TREE_GROWTH];
            }
            for (int i = 0; i < yards.length; i++) {
                yards[i] = Math.max(yards[i], 0);
            }
        }

        int yardsFrom(int house, int wall) {
            return yards[house * WALLS_MOST + wall];
        }

        int yardsOf(int p, int wall) {
            return yards[town.houses[p] * WALLS_MOST + wall];
        }

        /** What it is worth to one in a house that two walls are of one colour. */
        int worthOfTwo(int p, int house, int u, int v) {
            if (town.neighbours[u * WALLS_MOST + v] == 0) {
                return 0;
            }
            return town.beside[p] * Math.min(yardsFrom(house, u), yardsFrom(house, v));
        }

        int worthIn(int p, int house, int[] painting) {
            int sum = 0;
            for (int u = 0; u < town.wallCount; u++) {
                sum += yardsFrom(house, u) * town.taste[p * COLOURS_MOST + painting[u]];
                for (int v = 0; v < u; v++) {
                    if (painting[u] == painting[v]) {
                        sum += worthOfTwo(p, house, u, v);
                    }
                }
            }
            return sum;
        }

        int worthTo(int p, int[] painting) {
            return worthIn(p, town.houses[p], painting);
        }
    }

    /** The painting by the rule, and who gains by saying otherwise. */
    private static final class Judge {
        final int[] judged = new int[WALLS_MOST];
        int bestSaying = NONE;
        int bestGain = 0;
        private final Town town;
        private final Sight sight;
        private final int[] sayings = new int[PEOPLE_MOST * COLOURS_MOST];
        private final int[] facts = new int[FACTS];
        private final int[] stack = new int[STACK_MOST];

        Judge(Town town, Sight sight) {
            this.town = town;
            this.sight = sight;
        }

        void decide(int[] said) {
            sight.measure();
            for (int w = 0; w < town.wallCount; w++) {
                judged[w] = decideWall(said, w);
            }
        }

        void weighSayings(int p) {
            decide(town.said);
            int honest = sight.worthTo(p, judged);
            bestSaying = NONE;
            bestGain = 0;
            for (int c = 0; c < town.colourCount; c++) {
                sayAlone(p, c);
                decide(sayings);
                int gain = sight.worthTo(p, judged) - honest;
                if (gain > bestGain) {
                    bestGain = gain;
                    bestSaying = c;
                }
            }
        }

        private void sayAlone(int p, int colour) {
            System.arraycopy(town.said, 0, sayings, 0, sayings.length);
            for (int c = 0; c < COLOURS_MOST; c++) {
                sayings[p * COLOURS_MOST + c] = c == colour ? LIKING_MOST : -LIKING_MOST;
            }
        }

        private int decideWall(int[] said, int w) {
            gatherFacts(w);
            if (facts[FACT_SEERS] == 0) {
                return town.painting[w];
            }
            int method = chosenMethod();
            switch (method) {
                case KEY_MOST: return town.favourite(said, seerOfMost(w));
                case KEY_WINDOW:
                case KEY_YARDS:
                case KEY_SUM: return colourOfMost(said, w, method);
                case KEY_TURN: return colourByTurn(said, w);
                default: return town.painting[w];
            }
        }

        private void gatherFacts(int w) {
            int seers = 0;
            int all = 0;
            int great = 0;
            for (int p = 0; p < town.peopleCount; p++) {
                int yards = sight.yardsOf(p, w);
                if (yards > 0) {
                    seers++;
                    all += yards;
                    great = Math.max(great, yards);
                }
            }
            facts[FACT_WALL] = w;
            facts[FACT_SEERS] = seers;
            facts[FACT_ALL] = all;
            facts[FACT_GREAT] = great;
            facts[FACT_COLOUR] = town.painting[w];
            facts[FACT_YEAR] = town.year;
        }

        private int chosenMethod() {
            Rule rule = town.rule;
            for (int line = 0; line < rule.lineCount && line < LINES_MOST; line++) {
                int from = rule.stepsFrom(line);
                int to = rule.stepEnds[line];
                if (from == to || holds(from, to)) {
                    return rule.methods[line];
                }
            }
            return KEY_KEEP;
        }

        private boolean holds(int from, int to) {
            int[] steps = town.rule.steps;
            int size = 0;
            for (int i = from; i < to && i < steps.length; i++) {
                int kind = steps[i] & STEP_MASK;
                int number = steps[i] >> STEP_BITS;
                if (kind == STEP_NUMBER || kind == STEP_FACT) {
                    if (size >= stack.length) {
                        return false;
                    }
                    stack[size] = kind == STEP_NUMBER ? number : factAt(number);
                    size++;
                } else if (kind == STEP_NOT || kind == STEP_PART) {
                    if (size < 1) {
                        return false;
                    }
                    stack[size - 1] = kind == STEP_NOT ? 1 - stack[size - 1] : part(stack[size - 1], number);
                } else {
                    if (size < 2) {
                        return false;
                    }
                    size--;
                    stack[size - 1] = joined(kind, stack[size - 1], stack[size]);
                }
            }
            return size > 0 && stack[0] != 0;
        }

        private int factAt(int i) {
            return i >= 0 && i < facts.length ? facts[i] : 0;
        }

        private static int part(int a, int by) {
            return by != 0 ? a / by : 0;
        }

        private static int joined(int kind, int a, int b) {
            switch (kind) {
                case STEP_PLUS: return a + b;
                case STEP_MINUS: return a - b;
                case STEP_TIMES: return a * b;
                case STEP_LESS: return a < b ? 1 : 0;
                case STEP_SAME: return a == b ? 1 : 0;
                case STEP_MORE: return a > b ? 1 : 0;
                case STEP_AND: return a & b;
                default: return a | b;
            }
        }

        private int seerOfMost(int w) {
            int best = 0;
            for (int p = 1; p < town.peopleCount; p++) {
                if (sight.yardsOf(p, w) > sight.yardsOf(best, w)) {
                    best = p;
                }
            }
            return best;
        }

        private int colourOfMost(int[] said, int w, int method) {
            int best = 0;
            int most = pointsOf(said, w, method, 0);
            for (int c = 1; c < town.colourCount; c++) {
                int points = pointsOf(said, w, method, c);
                if (points > most) {
                    most = points;
                    best = c;
                }
            }
            return best;
        }

        private int pointsOf(int[] said, int w, int method, int colour) {
            int points = 0;
            for (int p = 0; p < town.peopleCount; p++) {
                int yards = sight.yardsOf(p, w);
                if (method == KEY_SUM) {
                    points += yards * said[p * COLOURS_MOST + colour];
                } else if (yards > 0 && town.favourite(said, p) == colour) {
                    points += method == KEY_WINDOW ? 1 : yards;
                }
            }
            return points;
        }

        private int colourByTurn(int[] said, int w) {
            if (town.peopleCount == 0) {
                return town.painting[w];
            }
            int p = (town.year + w) % town.peopleCount;
            return sight.yardsOf(p, w) > 0 ? town.favourite(said, p) : town.painting[w];
        }
    }

    /** The painting of most worth less its pots, to all or to all but one. */
    private static final class BestSearch {
        final int[] chosen = new int[WALLS_MOST];
        private final Town town;
        private final Sight sight;
        private final int[] alone = new int[WALLS_MOST * COLOURS_MOST];
        private final int[] together = new int[WALLS_MOST * WALLS_MOST];
        private final int[] trial = new int[WALLS_MOST];
        private final int[] leading = new int[WALLS_MOST];
        private int top = 0;

        BestSearch(Town town, Sight sight) {
            this.town = town;
            this.sight = sight;
        }

        /** Finds the best painting: its worths less its pots. */
        int choose() {
            sight.measure();
            int value = greatestWithout(NONE);
            System.arraycopy(leading, 0, chosen, 0, chosen.length);
            return value;
        }

        int potsOfChosen() {
            int sum = 0;
            int used = 0;
            for (int w = 0; w < town.wallCount; w++) {
                int c = chosen[w];
                sum += (used >> c & 1) == 0 ? town.pots[c] : 0;
                used |= 1 << c;
            }
            return sum;
        }

        int dueOf(int p) {
            return greatestWithout(p) - (worthsOfChosenWithout(p) - potsOfChosen());
        }

        int lackOfChosen() {
            int lack = potsOfChosen();
            for (int p = 0; p < town.peopleCount; p++) {
                lack -= dueOf(p);
            }
            return lack;
        }

        private int worthsOfChosenWithout(int left) {
            int sum = 0;
            for (int p = 0; p < town.peopleCount; p++) {
                sum += p == left ? 0 : sight.worthTo(p, chosen);
            }
            return sum;
        }

        private int greatestWithout(int left) {
            addUp(left);
            top = BELOW_ALL;
            tryFrom(0, 0, 0);
            return top;
        }

        // Sums over people once, so that the many paintings need not ask each of them.
        private void addUp(int left) {
            Arrays.fill(alone, 0);
            Arrays.fill(together, 0);
            for (int p = 0; p < town.peopleCount; p++) {
                if (p != left) {
                    addOne(p);
                }
            }
        }

        private void addOne(int p) {
            for (int u = 0; u < town.wallCount; u++) {
                for (int c = 0; c < town.colourCount; c++) {
                    alone[u * COLOURS_MOST + c] += sight.yardsOf(p, u) * town.taste[p * COLOURS_MOST + c];
                }
                for (int v = 0; v < u; v++) {
                    together[u * WALLS_MOST + v] += sight.worthOfTwo(p, town.houses[p], u, v);
                }
            }
        }

        // Paintings come in their order, so that the first of several stays.
        private void tryFrom(int wall, int value, int used) {
            if (wall >= town.wallCount || wall >= trial.length) {
                if (value > top) {
                    top = value;
                    System.arraycopy(trial, 0, leading, 0, leading.length);
                }
                return;
            }
            for (int c = 0; c < town.colourCount; c++) {
                int pot = (used >> c & 1) == 0 ? town.pots[c] : 0;
                trial[wall] = c;
                tryFrom(wall + 1, value + worthOfNext(wall, c) - pot, used | 1 << c);
            }
        }

        private int worthOfNext(int wall, int colour) {
            int worth = alone[wall * COLOURS_MOST + colour];
            for (int u = 0; u < wall; u++) {
                if (trial[u] == colour) {
                    worth += together[wall * WALLS_MOST + u];
                }
            }
            return worth;
        }
    }

    /** Colours borne for colours, couple by couple. */
    private static final class Trader {
        private final Town town;
        private final Sight sight;
        private final int[] thought = new int[WALLS_MOST];
        private final int[] partsOfFirst = new int[WALLS_MOST * COLOURS_MOST];
        private final int[] partsOfSecond = new int[WALLS_MOST * COLOURS_MOST];

        Trader(Town town, Sight sight) {
            this.town = town;
            this.sight = sight;
        }

        int tradesTillRest() {
            sight.measure();
            System.arraycopy(town.painting, 0, thought, 0, thought.length);
            int trades = 0;
            for (int n = 0; n < ROUNDS_MOST; n++) {
                int done = round(thought);
                if (done == 0) {
                    return trades;
                }
                trades += done;
            }
            return NONE;
        }

        int round(int[] painting) {
            int done = 0;
            for (int p = 0; p < town.peopleCount; p++) {
                for (int q = p + 1; q < town.peopleCount; q++) {
                    if (hasTraded(p, q, painting)) {
                        done++;
                    }
                }
            }
            return done;
        }

        private boolean hasTraded(int p, int q, int[] painting) {
            weighParts(p, painting, partsOfFirst);
            weighParts(q, painting, partsOfSecond);
            for (int u = 0; u < town.wallCount; u++) {
                for (int v = u + 1; v < town.wallCount; v++) {
                    if (hasRepainted(p, q, u, v, painting)) {
                        return true;
                    }
                }
            }
            return false;
        }

        // The worth that hangs on one wall, for each colour that it could have, the others staying.
        private void weighParts(int p, int[] painting, int[] parts) {
            for (int u = 0; u < town.wallCount; u++) {
                for (int c = 0; c < town.colourCount; c++) {
                    parts[u * COLOURS_MOST + c] = sight.yardsOf(p, u) * town.taste[p * COLOURS_MOST + c];
                }
                for (int v = 0; v < town.wallCount; v++) {
                    if (v != u) {
                        parts[u * COLOURS_MOST + painting[v]] += sight.worthOfTwo(p, town.houses[p], u, v);
                    }
                }
            }
        }

        private boolean hasRepainted(int p, int q, int u, int v, int[] painting) {
            int pairOfFirst = sight.worthOfTwo(p, town.houses[p], u, v);
            int pairOfSecond = sight.worthOfTwo(q, town.houses[q], u, v);
            for (int c = 0; c < town.colourCount; c++) {
                for (int d = 0; d < town.colourCount; d++) {
                    int pairs = pairsGained(painting[u], painting[v], c, d);
                    if (change(partsOfFirst, u, v, c, d, painting) + pairs * pairOfFirst > 0
                        && change(partsOfSecond, u, v, c, d, painting) + pairs * pairOfSecond > 0) {
                        painting[u] = c;
                        painting[v] = d;
                        return true;
                    }
                }
            }
            return false;
        }

        private static int change(int[] parts, int u, int v, int c, int d, int[] painting) {
            int first = parts[u * COLOURS_MOST + c] - parts[u * COLOURS_MOST + painting[u]];
            int second = parts[v * COLOURS_MOST + d] - parts[v * COLOURS_MOST + painting[v]];
            return first + second;
        }

        // The parts of both walls take the other one as it was; this mends what that counts wrongly of the two.
        private static int pairsGained(int oldFirst, int oldSecond, int first, int second) {
            int gained = first == second ? 1 : 0;
            gained -= first == oldSecond ? 1 : 0;
            gained -= oldFirst == second ? 1 : 0;
            gained += oldFirst == oldSecond ? 1 : 0;
            return gained;
        }
    }

    /** A wall that all mind, and who pays for it by hope. */
    private static final class Payers {
        int sets = 0;
        int least = NONE;
        private final Town town;
        private final Sight sight;
        private final int[] painted = new int[WALLS_MOST];
        private final int[] gains = new int[PEOPLE_MOST];

        Payers(Town town, Sight sight) {
            this.town = town;
            this.sight = sight;
        }

        void consider(int wall, int colour, int needed, int fee) {
            weighGains(wall, colour);
            sets = 0;
            least = NONE;
            for (int set = 0; set < 1 << town.peopleCount; set++) {
                if (isKept(set, needed, fee)) {
                    sets++;
                    least = least == NONE ? set : least;
                }
            }
        }

        private void weighGains(int wall, int colour) {
            sight.measure();
            System.arraycopy(town.painting, 0, painted, 0, painted.length);
            if (town.hasWall(wall)) {
                painted[wall] = colour;
            }
            for (int p = 0; p < town.peopleCount; p++) {
                gains[p] = sight.worthTo(p, painted) - sight.worthTo(p, town.painting);
            }
        }

        private boolean isKept(int set, int needed, int fee) {
            int payers = Integer.bitCount(set);
            for (int p = 0; p < town.peopleCount; p++) {
                boolean pays = (set >> p & 1) == 1;
                int others = pays ? payers - 1 : payers;
                int paying = (others + 1 >= needed ? gains[p] : 0) - fee;
                int sparing = others >= needed ? gains[p] : 0;
                if (pays ? sparing > paying : paying > sparing) {
                    return false;
                }
            }
            return true;
        }
    }

    /** Houses given to people for the view, and couples that would change theirs. */
    private static final class Movers {
        final int[] planned = new int[PEOPLE_MOST];
        private final Town town;
        private final Sight sight;
        private final int[] worths = new int[PEOPLE_MOST * HOUSES];
        private final int[] sums = new int[1 << HOUSES];

        Movers(Town town, Sight sight) {
            this.town = town;
            this.sight = sight;
        }

        int greatestSum() {
            return sums[0];
        }

        void plan() {
            sight.measure();
            for (int p = 0; p < town.peopleCount; p++) {
                for (int house = 0; house < HOUSES; house++) {
                    worths[p * HOUSES + house] = sight.worthIn(p, house, town.painting);
                }
            }
            // As many houses are taken as people are housed, so that a set of houses tells whose turn it is.
            for (int taken = sums.length - 1; taken >= 0; taken--) {
                sums[taken] = greatestFrom(taken);
            }
            int taken = 0;
            for (int p = 0; p < town.peopleCount; p++) {
                planned[p] = firstHouse(p, taken);
                taken |= 1 << planned[p];
            }
        }

        int firstSwap() {
            sight.measure();
            for (int p = 0; p < town.peopleCount; p++) {
                for (int q = p + 1; q < town.peopleCount; q++) {
                    if (likesHouseOf(p, q) && likesHouseOf(q, p)) {
                        return 10 * p + q;
                    }
                }
            }
            return NONE;
        }

        private boolean likesHouseOf(int p, int other) {
            return sight.worthIn(p, town.houses[other], town.painting) > sight.worthTo(p, town.painting);
        }

        private int greatestFrom(int taken) {
            int p = Integer.bitCount(taken);
            if (p >= town.peopleCount) {
                return 0;
            }
            int greatest = BELOW_ALL;
            for (int house = 0; house < HOUSES; house++) {
                if ((taken >> house & 1) == 0) {
                    greatest = Math.max(greatest, sumWith(p, house, taken));
                }
            }
            return greatest;
        }

        private int sumWith(int p, int house, int taken) {
            return worths[p * HOUSES + house] + sums[taken | 1 << house];
        }

        private int firstHouse(int p, int taken) {
            for (int house = 0; house < HOUSES; house++) {
                if ((taken >> house & 1) == 0 && sumWith(p, house, taken) == sums[taken]) {
                    return house;
                }
            }
            return 0;
        }
    }
}
