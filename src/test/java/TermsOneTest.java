/** The boundary cases of 'What it is' and of 'Terms', 1: what can be told, between which numbers, and what it is worth. */
public final class TermsOneTest extends Trial {
    private static final int[] STATES = {0, 1, -1, 2, -2, 77, 1000, -1000, 65535, 1 << 24, HIGH, LOW, HIGH - 1, LOW + 1};

    private static int nextState(int state) {
        return (int) (1664525L * state + 1013904223L);
    }

    private static int highBits(int state) {
        return (int) ((state & 0xffffffffL) / 256);
    }

    private static void manyCalls() {
        sentence("An object is used for at most 512 calls after it has been made.");
        x.ofColours(4).plainWalls(7).peopleInRow(7);
        for (int h = 0; h < 7; h++) x.views(h, 9, 8, 7, 6, 5, 4, 3 + h);
        for (int p = 0; p < 7; p++) x.tastes(p, p, 5 - p, 2, p - 3).likesBeside(p, 2 - p);
        x.neighbours(0, 6).neighbours(1, 2).pots(9, 99, 999, 0).rule("by sum when not(all<great);").imageTaken();
        int lack = x.best(2);
        int gain = x.gains(3, 1);
        while (x.calls < Counted.CALLS_MOST - 2) due("best(2)", x.best(2), lack);
        due("call 511", x.gains(3, 1), gain);
        yes("call 512", x.image(false));
    }

    private static void stateIsAnInt() {
        sentence("STATE of draws (an int, 0 at first)");
        due("look(6)", x.look(6), 0);
        int was = 0;
        for (int v : STATES) {
            due("state(" + v + ")", x.state(v), was);
            due("look(6)", x.look(6), v);
            was = v;
        }
    }

    private static void stateWraps() {
        sentence("it becomes 1664525 times itself + 1013904223 (ints, which wrap)");
        x.plainWalls(1).people(0);
        int year = 0;
        for (int v : STATES) {
            x.state(v);
            year++;
            due("years(1)", x.years(1), year);
            due("look(6) two draws after " + v, x.look(6), nextState(nextState(v)));
        }
    }

    // Only the one who is drawn sees, and only the wall that is drawn, so that it alone is painted.
    private static void drawWithoutSign() {
        sentence("then it is its highest 24 bits (without sign) modulo m");
        for (int state : STATES) {
            for (int m = 1; m <= 7; m += m == 2 ? 4 : 1) {
                int p = highBits(nextState(state)) % m;
                int w = highBits(nextState(nextState(state))) % m;
                x = new Counted().plainWalls(m).peopleInRow(m).tastes(p, 0, 1, 0);
                x.state(state);
                yes("view", x.view(p, w, 1));
                due("years(1)", x.years(1), 1);
                for (int i = 0; i < m; i++) due("colour(" + i + ", 0) of " + m, x.colour(i, 0), i == w ? 1 : 0);
            }
        }
    }

    private static void howManyColours() {
        sentence("COLOURS 0 .. C - 1, C 2 .. 4 (3 at first)");
        due("look(0)", x.look(0), 3);
        due("wall(2)", x.wall(2), 0);
        due("wall(3)", x.wall(3), NONE);
        for (int c = 2; c <= 4; c++) {
            yes("colours(" + c + ")", x.colours(c));
            due("look(0)", x.look(0), c);
            due("the last colour", x.wall(c - 1), 0);
            due("the first colour", x.wall(0), 1);
            due("a colour beyond", x.wall(c), NONE);
            due("a colour below", x.wall(-1), NONE);
        }
        no("colours(1)", x.colours(1));
        no("colours(5)", x.colours(5));
        due("look(0)", x.look(0), 4);
    }

    private static void toldAnew() {
        sentence("told anew: all is as at first but C, STATE, the TAPE, fault() and THE IMAGE");
        for (int c = 2; c <= 4; c++) {
            Counted town = new Counted();
            fullTown(town);
            int state = town.look(6);
            yes("colours(" + c + ")", town.colours(c));
            yes("an image", town.image(true));
            Counted fresh = new Counted();
            faultIn(fresh);
            fresh.ofColours(c).fed("by window;by keep;").state(state);
            fresh.imageTaken();
            alike(fresh, town);
        }
    }

    // Walls and people come anew with the numbers of the earlier ones: nothing may be left at those.
    private static void toldAnewForThoseWhoCome() {
        sentence("told anew: all is as at first, for those who come then, too");
        for (int yards = 0; yards < 9; yards += 4) {
            Counted town = new Counted();
            fullTown(town);
            town.ofColours(4).state(0);
            Counted fresh = new Counted();
            faultIn(fresh);
            fresh.ofColours(4).fed("by window;by keep;");
            for (Counted t : new Counted[] {town, fresh}) {
                t.walls(1, 1, 0).people(0, 5, 7).rule("");
                if (yards > 0) t.views(0, yards, 8, 7).views(5, 3, yards, 5).views(7, 20, 0, yards);
                t.imageTaken();
            }
            alike(fresh, town);
        }
    }

    // Beside of one and neighbours count together alone: of each the other one is told anew.
    private static void besideToldAnew() {
        sentence("told anew: all is as at first, BESIDE of one and NEIGHBOURS, too");
        for (int first = 0; first < 2; first++) {
            x = new Counted().walls(0, 0).people(0).views(0, 5, 5).neighbours(0, 1).likesBeside(0, 3).likesBeside(0, 3);
            due("worth(0)", x.worth(0), 15);
            x.ofColours(3).walls(0, 0).people(0).views(0, 5, 5);
            if (first == 0) x.neighbours(0, 1);
            else x.likesBeside(0, 3);
            due("worth(0)", x.worth(0), 0);
        }
    }

    private static void tastesToldAnew() {
        sentence("told anew: all is as at first, TASTES and what is SAID, too");
        for (int v = -9; v <= 9; v++) {
            x = new Counted().walls(0).people(0).views(0, 5).tastes(0, v, v, v).ofColours(3).walls(1).people(0).views(0, 5).rule("by most;");
            judged(0);
            due("worth(0)", x.worth(0), 0);
            yes("tell(0, 1, 2, 0)", x.tell(0, 1, 2, 0));
            judged(0);
            yes("tell(0, 1, 2, 1)", x.tell(0, 1, 2, 1));
            judged(2);
            x.says(0, -1).says(0, -1, 0, -1);
            judged(1);
        }
    }

    private static void imageOutlivesColours() {
        sentence("told anew: all is as at first but .. THE IMAGE");
        leaves(t -> {
            fullTown(t);
            t.image(false);
        }, t -> {
            t.ofColours(2).plainWalls(7).peopleInRow(7);
            t.image(false);
        });
    }

    private static void potPrices() {
        sentence("each with a POT's price 0 .. 999 (0 at first)");
        for (int c = 2; c <= 4; c++) {
            x.ofColours(c);
            for (int i = 0; i < c; i++) {
                due("look(" + (20 + i) + ")", x.look(20 + i), 0);
                yes("pot", x.pot(i, 999));
                no("pot", x.pot(i, 1000));
                due("look(" + (20 + i) + ")", x.look(20 + i), 999);
                yes("pot", x.pot(i, 0));
                no("pot", x.pot(i, -1));
                due("look(" + (20 + i) + ")", x.look(20 + i), 0);
                yes("pot", x.pot(i, 998));
            }
            due("look(" + (20 + c) + ")", x.look(20 + c), NONE);
            no("a colour beyond", x.pot(c, 1));
            no("a colour below", x.pot(-1, 1));
        }
    }

    private static void wallsComeByNumber() {
        sentence("WALLS 0 .. 6 as they come: a COLOUR (in all THE PAINTING)");
        due("colour(0, 0)", x.colour(0, 0), NONE);
        int[] colours = {2, 0, 1, 1, 0, 2, 2};
        for (int w = 0; w < 7; w++) {
            due("look(1)", x.look(1), w);
            due("wall", x.wall(colours[w]), w);
            due("the next one is none yet", x.colour(w + 1, 0), NONE);
        }
        due("an eighth", x.wall(0), NONE);
        due("look(1)", x.look(1), 7);
        painting(colours);
    }

    private static void houseNumbers() {
        sentence("HOUSES 0 .. 7");
        x.plainWalls(1);
        for (int h : new int[] {0, 7}) {
            int p = x.person(h);
            due("person", p, h == 0 ? 0 : 1);
            due("look", x.look(10 + p), h);
            yes("view", x.view(h, 0, 30 + h));
            due("sees", x.sees(p, 0), 30 + h);
            due("tree", x.tree(h, 0, 1), p);
        }
        yes("move", x.move(0, 7));
        yes("move", x.move(0, 0));
        for (int h : new int[] {-1, 8}) {
            due("person", x.person(h), NONE);
            no("view", x.view(h, 0, 1));
            due("tree", x.tree(h, 0, 1), NONE);
            no("move", x.move(0, h));
        }
        due("look(10)", x.look(10), 0);
        due("look(11)", x.look(11), 7);
    }

    private static void peopleComeByNumber() {
        sentence("PEOPLE 0 .. 6 as they come: a HOUSE");
        for (int p = 0; p < 7; p++) {
            due("look(2)", x.look(2), p);
            due("no such one yet", x.look(10 + p), NONE);
            due("person", x.person(7 - p), p);
            due("look", x.look(10 + p), 7 - p);
        }
        due("an eighth, for an empty house", x.person(0), NONE);
        due("look(2)", x.look(2), 7);
        due("look(17)", x.look(17), NONE);
    }

    private static void oneInAHouse() {
        sentence("a HOUSE (in which no other one lives)");
        x.people(3);
        due("person(3)", x.person(3), NONE);
        due("look(2)", x.look(2), 1);
        yes("move", x.move(0, 4));
        due("person(4)", x.person(4), NONE);
        due("person(3), which is empty now", x.person(3), 1);
    }

    private static void yardsFromAHouse() {
        sentence("From a HOUSE 0 .. 99 yards of a WALL can be SEEN (0 at first)");
        x.plainWalls(7).people(7);
        for (int w = 0; w < 7; w += 6) {
            due("sees at first", x.sees(0, w), 0);
            yes("view", x.view(7, w, 99));
            due("sees", x.sees(0, w), 99);
            no("view", x.view(7, w, 100));
            due("sees", x.sees(0, w), 99);
            yes("view", x.view(7, w, 0));
            due("sees", x.sees(0, w), 0);
            yes("view", x.view(7, w, 1));
            no("view", x.view(7, w, -1));
            due("sees", x.sees(0, w), 1);
        }
        due("another wall", x.sees(0, 1), 0);
    }

    private static void hiddenToNothing() {
        sentence("less what TREES hide, 0 at least");
        x.plainWalls(2).people(0).views(0, 10, 99).planted(0, 0, 1).planted(0, 0, 2).planted(0, 1, 99);
        int[] left = {10, 7, 4, 1, 0, 0};
        for (int year = 0; year < left.length; year++) {
            due("sees in year " + year, x.sees(0, 0), left[year]);
            due("years", x.years(1), year + 1);
        }
        due("sees", x.sees(0, 1), 0);
        yes("view", x.view(0, 0, 18));
        due("as many as the trees hide", x.sees(0, 0), 0);
        yes("view", x.view(0, 0, 19));
        due("one more", x.sees(0, 0), 1);
        x.yearsGo(993);
        due("look(5)", x.look(5), 999);
        yes("view", x.view(0, 1, 99));
        due("the most that trees hide", x.sees(0, 1), 0);
        due("worth", x.tastes(0, 9).worth(0), 0);
    }

    private static void treesComeByNumber() {
        sentence("TREES 0 .. 19 as they come");
        x.plainWalls(2).people(0, 7).views(0, 99, 99).views(7, 99, 99);
        for (int t = 0; t < 20; t++) {
            due("look(3)", x.look(3), t);
            due("tree", x.tree(t == 19 ? 7 : 0, t == 0 ? 1 : 0, t == 19 ? 50 : t == 0 ? 7 : 1), t);
        }
        due("a twenty-first", x.tree(7, 1, 9), NONE);
        due("look(3)", x.look(3), 20);
        due("years", x.years(1), 1);
        due("behind the first tree", x.sees(0, 1), 92);
        due("behind eighteen trees", x.sees(0, 0), 81);
        due("behind the last tree", x.sees(1, 0), 49);
        due("without a tree", x.sees(1, 1), 99);
    }

    private static void treesAge() {
        sentence("as they are YEARS old (YEAR, 0 at first, less that in which they came)");
        due("look(5)", x.look(5), 0);
        x.plainWalls(4).people(0).views(0, 99, 99, 99, 99).planted(0, 0, 1).yearsGo(1).planted(0, 1, 2);
        due("it is a year old", x.sees(0, 0), 98);
        due("it is new", x.sees(0, 1), 99);
        x.yearsGo(1);
        due("two years old", x.sees(0, 0), 97);
        due("a year old", x.sees(0, 1), 97);
        x.yearsGo(996).planted(0, 2, 98).yearsGo(1).planted(0, 3, 99);
        due("look(5)", x.look(5), 999);
        due("it came in 998", x.sees(0, 2), 1);
        due("it came in 999", x.sees(0, 3), 99);
        due("it came in 0", x.sees(0, 0), 0);
    }

    private static void growths() {
        sentence("times their GROWTH 0 .. 99");
        x.plainWalls(2).people(0).views(0, 99, 99);
        due("tree", x.tree(0, 0, 0), 0);
        due("tree", x.tree(0, 1, 99), 1);
        due("tree", x.tree(0, 0, -1), NONE);
        due("tree", x.tree(0, 0, 100), NONE);
        due("look(3)", x.look(3), 2);
        x.yearsGo(1);
        due("growth 0", x.sees(0, 0), 99);
        due("growth 99", x.sees(0, 1), 0);
    }

    private static void seenFromHisHouse() {
        sentence("One SEES what can be SEEN from his HOUSE.");
        x.plainWalls(1).people(0, 7).views(0, 3).views(7, 99).views(6, 50);
        due("sees", x.sees(0, 0), 3);
        due("sees", x.sees(1, 0), 99);
        yes("move", x.move(0, 6));
        due("sees", x.sees(0, 0), 50);
        yes("move", x.move(0, 7));
        due("sees", x.sees(0, 0), 99);
        due("sees", x.sees(1, 0), 50);
    }

    private static void tasteNumbers() {
        sentence("TASTE of one for a COLOUR -9 .. 9 (0 at first)");
        x.ofColours(4).walls(0, 3).people(0, 1, 2, 3, 4, 5, 6);
        for (int p = 0; p < 7; p += 6) {
            x.views(p, 1, 100 - 1);
            due("worth at first", x.worth(p), 0);
            for (int v : new int[] {-9, 9}) {
                yes("tell", x.tell(p, 0, 0, v));
                due("worth", x.worth(p), v);
                no("tell", x.tell(p, 0, 0, v / 9 * 10));
                due("worth", x.worth(p), v);
                yes("tell", x.tell(p, 0, 3, v));
                due("worth", x.worth(p), 100 * v);
                yes("tell", x.tell(p, 0, 3, 0));
            }
        }
        due("another one", x.worth(1), 0);
    }

    private static void saidNumbers() {
        sentence("SAID: likewise");
        x.walls(2).people(0).views(0, 1).rule("by most;");
        judged(0);
        yes("tell", x.tell(0, 1, 0, -9));
        judged(1);
        yes("tell", x.tell(0, 1, 2, 9));
        judged(2);
        no("tell", x.tell(0, 1, 2, -10));
        judged(2);
        yes("tell", x.tell(0, 1, 2, -9));
        no("tell", x.tell(0, 1, 2, 10));
        judged(1);
        due("the taste is not told", x.worth(0), 0);
    }

    private static void besideNumbers() {
        sentence("BESIDE of one -9 .. 9 (0 at first)");
        x.plainWalls(2).people(0).views(0, 1, 1).neighbours(0, 1);
        due("worth at first", x.worth(0), 0);
        for (int v : new int[] {-9, 9}) {
            yes("tell", x.tell(0, 2, 0, v));
            due("worth", x.worth(0), v);
            no("tell", x.tell(0, 2, 0, v / 9 * 10));
            due("worth", x.worth(0), v);
        }
        yes("tell", x.tell(0, 2, 0, 0));
        due("worth", x.worth(0), 0);
    }

    private static void tasteIsSaid() {
        sentence("a TASTE that is told is SAID so, too; then something else may be SAID");
        x.plainWalls(1).people(0).views(0, 1).rule("by most;").tastes(0, 0, 1, 0);
        judged(1);
        yes("tell", x.tell(0, 1, 2, 2));
        judged(2);
        due("the taste is as it was", x.worth(0), 0);
        yes("tell", x.tell(0, 0, 2, 1));
        judged(1);
        no("a taste that cannot be is not said", x.tell(0, 0, 2, 10));
        judged(1);
    }

    private static void unlikeWalls() {
        sentence("Two unlike WALLS are NEIGHBOURS or not (not at first).");
        x.plainWalls(7).people(0).views(0, 1, 1, 1, 1, 1, 1, 1).likesBeside(0, 1);
        due("not at first", x.worth(0), 0);
        no("beside", x.beside(0, 0, true));
        no("beside", x.beside(6, 6, true));
        due("a wall beside itself", x.worth(0), 0);
        yes("beside", x.beside(0, 6, true));
        due("worth", x.worth(0), 1);
        yes("beside", x.beside(6, 0, true));
        due("told twice", x.worth(0), 1);
        yes("beside", x.beside(6, 0, false));
        due("not any more", x.worth(0), 0);
        yes("beside", x.beside(6, 0, false));
        due("nor then", x.worth(0), 0);
        for (int u = 0; u < 7; u++) {
            for (int v = 0; v < u; v++) yes("beside", x.beside(u, v, true));
        }
        due("all of them", x.worth(0), 21);
    }

    private static void worthIsAdded() {
        sentence("yards of each WALL that he SEES times his TASTE for its COLOUR, added");
        x.people(0);
        due("without walls", x.worth(0), 0);
        x.walls(0, 1, 2, 0, 1, 2, 0).tastes(0, 1, -9, 9);
        due("who sees none", x.worth(0), 0);
        x.views(0, 0, 99, 0, 0, 0, 0, 0);
        due("worth", x.worth(0), -891);
        x.views(0, 5, 99, 99, 0, 0, 1, 7);
        due("worth", x.worth(0), 5 - 891 + 891 + 9 + 7);
    }

    private static void greatestWorths() {
        sentence("WORTH of a PAINTING to one, the greatest and the least");
        x.plainWalls(7).people(7).views(7, 99, 99, 99, 99, 99, 99, 99).tastes(0, 9).likesBeside(0, 9);
        for (int u = 0; u < 7; u++) {
            for (int v = 0; v < u; v++) x.neighbours(u, v);
        }
        due("worth", x.worth(0), 9 * 99 * (7 + 21));
        due("best(0)", x.best(0), 9 * 99 * (7 + 21));
        due("homes(0)", x.homes(0), 9 * 99 * (7 + 21));
        x.tastes(0, -9).likesBeside(0, -9);
        due("worth", x.worth(0), -9 * 99 * (7 + 21));
    }

    private static void lesserYards() {
        sentence("for each two NEIGHBOURS of one COLOUR BESIDE times the lesser one of his yards of both");
        x.plainWalls(2).people(0).neighbours(0, 1).likesBeside(0, 2);
        int[][] yards = {{3, 8}, {8, 3}, {5, 5}, {0, 99}, {99, 0}, {0, 0}, {98, 99}};
        for (int[] both : yards) {
            x.views(0, both);
            due("worth", x.worth(0), 2 * Math.min(both[0], both[1]));
        }
        yes("paint", x.paint(1, 1));
        due("of two colours", x.worth(0), 0);
        yes("paint", x.paint(0, 1));
        due("of one colour again", x.worth(0), 2 * 98);
        x.planted(0, 1, 60).yearsGo(1);
        yes("paint", x.paint(0, 2));
        yes("paint", x.paint(1, 2));
        due("behind a tree", x.worth(0), 2 * 39);
    }

    public static void main(String[] args) {
        manyCalls();
        stateIsAnInt();
        stateWraps();
        drawWithoutSign();
        howManyColours();
        toldAnew();
        toldAnewForThoseWhoCome();
        besideToldAnew();
        tastesToldAnew();
        imageOutlivesColours();
        potPrices();
        wallsComeByNumber();
        houseNumbers();
        peopleComeByNumber();
        oneInAHouse();
        yardsFromAHouse();
        hiddenToNothing();
        treesComeByNumber();
        treesAge();
        growths();
        seenFromHisHouse();
        tasteNumbers();
        saidNumbers();
        besideNumbers();
        tasteIsSaid();
        unlikeWalls();
        worthIsAdded();
        greatestWorths();
        lesserYards();
        finish();
    }
}
