import java.nio.charset.StandardCharsets;

/** The document's promises one by one: ordinary calls, the edges that it names, and wrong ones. */
public final class PromisesTest {
    private static final int NONE = -1;
    private static final int NO_SUM = -100000;
    private static final int LOW = Integer.MIN_VALUE;
    private static final int HIGH = Integer.MAX_VALUE;
    private static int wrong = 0;
    private static int asked = 0;
    private static String promise = "";
    private static PaintedByOthers x;

    private static void start(String name) {
        promise = name;
        x = new PaintedByOthers();
    }

    private static void due(String call, int got, int want) {
        asked++;
        if (got != want) {
            wrong++;
            System.out.println(promise + ": " + call + " answered " + got + ", due is " + want);
        }
    }

    private static void yes(String call, boolean got) {
        due(call, got ? 1 : 0, 1);
    }

    private static void no(String call, boolean got) {
        due(call, got ? 1 : 0, 0);
    }

    private static int feedBytes(byte[] bytes) {
        int before = 0;
        for (int from = 0; from < bytes.length; from += 20) {
            int[] n = new int[5];
            for (int i = 0; i < 20; i++) {
                int b = from + i < bytes.length ? bytes[from + i] & 255 : ' ';
                n[i / 4] = n[i / 4] << 8 | b;
            }
            before = x.feed(n[0], n[1], n[2], n[3], n[4]);
        }
        return before;
    }

    private static void feedText(String text) {
        byte[] bytes = text.getBytes(StandardCharsets.ISO_8859_1);
        feedBytes(bytes);
        yes("end " + bytes.length, x.end(bytes.length));
    }

    private static int read(String text) {
        feedText(text);
        return x.text();
    }

    private static void rule(String text, int lines) {
        due("rule " + text, read(text), lines);
        due("fault 0", x.fault(0), 0);
        due("fault 1", x.fault(1), NONE);
    }

    private static void fault(String text, int kind, int place) {
        due("faulty " + text, read(text), NONE);
        due("fault 0 of " + text, x.fault(0), kind);
        due("fault 1 of " + text, x.fault(1), place);
    }

    private static void walls(int... colours) {
        for (int i = 0; i < colours.length; i++) due("wall", x.wall(colours[i]), i);
    }

    private static void people(int... houses) {
        for (int i = 0; i < houses.length; i++) due("person", x.person(houses[i]), i);
    }

    private static void views(int house, int... yards) {
        for (int w = 0; w < yards.length; w++) yes("view", x.view(house, w, yards[w]));
    }

    private static void tastes(int p, int... tastes) {
        for (int c = 0; c < tastes.length; c++) yes("tell", x.tell(p, 0, c, tastes[c]));
    }

    private static void painting(int... colours) {
        for (int w = 0; w < colours.length; w++) due("colour of " + w, x.colour(w, 0), colours[w]);
    }

    private static void judged(int... colours) {
        for (int w = 0; w < colours.length; w++) due("judged of " + w, x.colour(w, 1), colours[w]);
    }

    private static void best(int... colours) {
        for (int w = 0; w < colours.length; w++) due("best of " + w, x.colour(w, 2), colours[w]);
    }

    private static void newObject() {
        start("1 a new object");
        int[] looks = {3, 0, 0, 0, 0, 0, 0, 0, NONE, NONE, NONE};
        for (int what = 0; what < looks.length; what++) due("look " + what, x.look(what), looks[what]);
        due("NONE", PaintedByOthers.NONE, NONE);
        due("fault 0", x.fault(0), 0);
        due("fault 1", x.fault(1), NONE);
        no("image", x.image(false));
    }

    private static void state() {
        start("2 state");
        due("state", x.state(5), 0);
        due("state", x.state(LOW), 5);
        due("state", x.state(-7), LOW);
        due("look 6", x.look(6), -7);
        walls(0);
        people(0);
        due("years", x.years(1), 1);
        int s = -7 * 1664525 + 1013904223;
        s = s * 1664525 + 1013904223;
        due("two draws a year", x.state(0), s);
    }

    private static void fillAll() {
        walls(1, 1, 0);
        people(0, 5);
        views(0, 9, 8, 7);
        views(5, 3, 4, 5);
        tastes(0, 1, 2, 3);
        tastes(1, -1, 2, 5);
        yes("pot", x.pot(1, 44));
        yes("tell", x.tell(0, 2, 0, 5));
        yes("beside", x.beside(0, 1, true));
        yes("deed", x.deed(0, 1, 0));
        yes("looks", x.looks(3, 7));
        yes("link", x.link(3, 4, true));
        due("tree", x.tree(0, 0, 1), 0);
        rule("by sum;", 1);
        due("years", x.years(2), 2);
    }

    private static void colours() {
        start("3 colours");
        for (int c : new int[] {LOW, -1, 0, 1, 5, 6, HIGH}) no("colours " + c, x.colours(c));
        due("three at first", x.look(0), 3);
        fillAll();
        no("colours 5", x.colours(5));
        due("nothing was done", x.look(1), 3);
        int drawn = x.look(6);
        yes("image", x.image(true));
        fault("by most when", 1, 12);
        feedText("by keep;by turn;");
        yes("colours 4", x.colours(4));
        int[] looks = {4, 0, 0, 0, 0, 0, drawn, 0};
        for (int what = 0; what < looks.length; what++) due("look " + what, x.look(what), looks[what]);
        for (int c = 0; c < 4; c++) due("pot " + c, x.look(20 + c), 0);
        due("fault 0 stays", x.fault(0), 1);
        due("fault 1 stays", x.fault(1), 12);
        walls(1, 1, 0);
        people(0, 5);
        due("no views", x.sees(0, 0), 0);
        views(0, 9, 8, 7);
        due("no trees", x.sees(0, 0), 9);
        due("no taste, no neighbours", x.worth(0), 0);
        yes("tell", x.tell(0, 2, 0, 5));
        due("no neighbours", x.worth(0), 0);
        yes("beside", x.beside(0, 1, true));
        due("beside", x.worth(0), 40);
        yes("tell", x.tell(1, 2, 0, 0));
        due("no deed", x.must(0, 1, 0), 0);
        due("no link", x.way(3, 4, 9, 0), NONE);
        due("no looks", x.way(3, 3, 9, 0), 0);
        due("the tape stays", x.text(), 2);
        yes("the image stays", x.image(false));
        due("colours of the image", x.look(0), 3);
        due("walls of the image", x.look(1), 3);
        due("a way of the image", x.way(3, 4, 9, 0), 7);
        yes("the same told anew", x.colours(3));
        due("walls", x.look(1), 0);
        yes("two", x.colours(2));
        due("two", x.look(0), 2);
        walls(1);
        people(0);
        views(0, 5);
        rule("by most;", 1);
        judged(0);
    }

    private static void besideIsCleared() {
        start("3 colours, beside of one");
        walls(1, 1);
        people(0);
        views(0, 3, 4);
        yes("tell", x.tell(0, 2, 0, 5));
        yes("beside", x.beside(0, 1, true));
        due("worth", x.worth(0), 15);
        yes("colours", x.colours(3));
        walls(1, 1);
        people(0);
        views(0, 3, 4);
        yes("beside", x.beside(0, 1, true));
        due("worth", x.worth(0), 0);
    }

    private static void pot() {
        start("4 pot");
        yes("pot", x.pot(0, 0));
        yes("pot", x.pot(2, 999));
        no("pot", x.pot(3, 1));
        no("pot", x.pot(-1, 1));
        no("pot", x.pot(0, -1));
        no("pot", x.pot(0, 1000));
        no("pot", x.pot(LOW, HIGH));
        due("look", x.look(20), 0);
        due("look", x.look(22), 999);
        yes("colours", x.colours(4));
        yes("pot", x.pot(3, 7));
        due("look", x.look(23), 7);
        due("look", x.look(22), 0);
    }

    private static void wall() {
        start("5 wall");
        due("wall", x.wall(-1), NONE);
        due("wall", x.wall(3), NONE);
        for (int w = 0; w < 7; w++) due("wall", x.wall(w % 3), w);
        due("an eighth", x.wall(0), NONE);
        painting(0, 1, 2, 0, 1, 2, 0);
        due("look 1", x.look(1), 7);
        yes("colours", x.colours(2));
        due("wall", x.wall(2), NONE);
        due("wall", x.wall(1), 0);
        due("wall", x.wall(HIGH), NONE);
    }

    private static void person() {
        start("6 person");
        due("person", x.person(-1), NONE);
        due("person", x.person(8), NONE);
        due("person", x.person(7), 0);
        due("another one lives there", x.person(7), NONE);
        for (int p = 1; p < 7; p++) due("person", x.person(p - 1), p);
        due("an eighth", x.person(6), NONE);
        due("look 2", x.look(2), 7);
        due("look 10", x.look(10), 7);
        due("look 16", x.look(16), 5);
    }

    private static void move() {
        start("7 move");
        no("none there", x.move(0, 0));
        people(2, 5);
        no("move", x.move(2, 0));
        no("move", x.move(-1, 0));
        no("move", x.move(0, 8));
        no("move", x.move(0, -1));
        yes("to an empty house", x.move(0, 7));
        due("look 10", x.look(10), 7);
        due("look 11", x.look(11), 5);
        yes("to another one's", x.move(1, 7));
        due("look 10", x.look(10), 5);
        due("look 11", x.look(11), 7);
        yes("to his own", x.move(1, 7));
        due("look 10", x.look(10), 5);
        due("look 11", x.look(11), 7);
        due("his house is free again", x.person(2), 2);
    }

    private static void view() {
        start("8 view");
        no("no wall", x.view(0, 0, 1));
        walls(0, 0);
        people(7);
        no("view", x.view(-1, 0, 1));
        no("view", x.view(8, 0, 1));
        no("view", x.view(7, 2, 1));
        no("view", x.view(7, -1, 1));
        no("view", x.view(7, 0, -1));
        no("view", x.view(7, 0, 100));
        due("sees", x.sees(0, 0), 0);
        yes("view", x.view(7, 1, 99));
        due("sees", x.sees(0, 1), 99);
        due("sees", x.sees(0, 0), 0);
        yes("view", x.view(7, 1, 0));
        due("sees", x.sees(0, 1), 0);
        yes("view", x.view(6, 0, 3));
        due("sees", x.sees(0, 0), 0);
    }

    private static void tree() {
        start("9 tree");
        due("no wall", x.tree(0, 0, 1), NONE);
        walls(0, 0);
        people(1, 2);
        views(1, 50, 50);
        views(2, 50, 99);
        due("tree", x.tree(-1, 0, 1), NONE);
        due("tree", x.tree(8, 0, 1), NONE);
        due("tree", x.tree(1, 2, 1), NONE);
        due("tree", x.tree(1, -1, 1), NONE);
        due("tree", x.tree(1, 0, -1), NONE);
        due("tree", x.tree(1, 0, 100), NONE);
        due("tree", x.tree(1, 0, 3), 0);
        due("it hides nothing yet", x.sees(0, 0), 50);
        due("years", x.years(1), 1);
        due("tree", x.tree(1, 0, 10), 1);
        due("sees", x.sees(0, 0), 47);
        due("years", x.years(2), 3);
        due("both hide", x.sees(0, 0), 50 - 9 - 20);
        due("another wall", x.sees(0, 1), 50);
        due("another house", x.sees(1, 0), 50);
        due("years", x.years(2), 5);
        due("nothing at least", x.sees(0, 0), 0);
        for (int t = 2; t < 20; t++) due("tree", x.tree(2, 1, t == 19 ? 99 : 0), t);
        due("a twenty-first", x.tree(2, 1, 0), NONE);
        due("look 3", x.look(3), 20);
        due("the last hides", x.sees(1, 1), 99);
        due("years", x.years(1), 6);
        due("the last hides", x.sees(1, 1), 0);
    }

    private static void tell() {
        start("10 tell");
        no("none there", x.tell(0, 0, 0, 1));
        walls(0, 0);
        people(3);
        views(3, 2, 5);
        rule("by most;", 1);
        no("tell", x.tell(1, 0, 0, 1));
        no("tell", x.tell(-1, 0, 0, 1));
        no("tell", x.tell(0, -1, 0, 1));
        no("tell", x.tell(0, 3, 0, 1));
        no("tell", x.tell(0, 0, -1, 1));
        no("tell", x.tell(0, 0, 3, 1));
        no("tell", x.tell(0, 1, 3, 1));
        no("tell", x.tell(0, 1, -1, 1));
        for (int what = 0; what < 3; what++) {
            no("tell", x.tell(0, what, 0, -10));
            no("tell", x.tell(0, what, 0, 10));
        }
        yes("taste", x.tell(0, 0, 0, -9));
        due("worth", x.worth(0), -63);
        judged(1, 1);
        yes("taste", x.tell(0, 0, 0, 9));
        due("worth", x.worth(0), 63);
        judged(0, 0);
        yes("said", x.tell(0, 1, 0, -9));
        due("the taste stays", x.worth(0), 63);
        judged(1, 1);
        yes("said", x.tell(0, 1, 2, 9));
        judged(2, 2);
        yes("a taste is said, too", x.tell(0, 0, 2, -9));
        judged(1, 1);
        yes("beside", x.beside(0, 1, true));
        yes("beside of one", x.tell(0, 2, HIGH, -9));
        due("worth", x.worth(0), 63 - 18);
        yes("beside of one", x.tell(0, 2, -5, 9));
        due("worth", x.worth(0), 63 + 18);
    }

    private static void beside() {
        start("11 beside");
        walls(1, 1, 1);
        people(0);
        views(0, 4, 6, 9);
        yes("tell", x.tell(0, 2, 0, 1));
        no("beside", x.beside(0, 0, true));
        no("beside", x.beside(0, 3, true));
        no("beside", x.beside(3, 0, true));
        no("beside", x.beside(-1, 0, true));
        no("beside", x.beside(0, -1, false));
        due("not at first", x.worth(0), 0);
        yes("beside", x.beside(2, 1, true));
        due("worth", x.worth(0), 6);
        yes("beside", x.beside(1, 2, true));
        due("once", x.worth(0), 6);
        yes("beside", x.beside(0, 1, true));
        due("worth", x.worth(0), 10);
        yes("beside", x.beside(0, 2, true));
        due("worth", x.worth(0), 14);
        yes("beside", x.beside(2, 0, false));
        due("worth", x.worth(0), 10);
        yes("beside", x.beside(0, 2, false));
        due("worth", x.worth(0), 10);
    }

    private static void paint() {
        start("12 paint");
        no("no wall", x.paint(0, 0));
        walls(0, 1);
        no("paint", x.paint(2, 0));
        no("paint", x.paint(-1, 0));
        no("paint", x.paint(0, 3));
        no("paint", x.paint(0, -1));
        painting(0, 1);
        yes("paint", x.paint(0, 2));
        painting(2, 1);
        yes("as it is", x.paint(1, 1));
        painting(2, 1);
    }

    private static void feed() {
        start("13 feed");
        for (int n = 1; n <= 20; n++) due("feed", x.feed(n, 0, 0, 0, 0), 20 * n);
        due("feed", x.feed(0, 0, 0, 0, 0), NONE);
        yes("nothing came", x.end(400));
        no("nothing came", x.end(401));
        yes("end", x.end(381));
        due("feed", x.feed(0, 0, 0, 0, 0), NONE);
        yes("end", x.end(380));
        due("feed", x.feed(0, 0, 0, 0, 0), 400);
        yes("end", x.end(0));
        // "by turn;" and the like, the highest byte first, the numbers in their order
        due("feed", x.feed(0x62792074, 0x75726e3b, 0x6279206d, 0x6f73743b, 0x62793b20), 20);
        due("text", x.text(), NONE);
        due("fault", x.fault(1), 18);
        due("feed", x.feed(0x62792074, 0x75726e3b, 0x6279206d, 0x6f73743b, 0x200a200a), 20);
        due("text", x.text(), 2);
        due("high bytes are nothing", x.feed(0x20e96279, 0, 0, 0, 0), 20);
        due("text", x.text(), NONE);
        due("fault", x.fault(1), 1);
    }

    private static void end() {
        start("14 end");
        yes("end", x.end(0));
        no("end", x.end(1));
        no("end", x.end(-1));
        no("end", x.end(LOW));
        feedBytes("by most;by turn;    ".getBytes(StandardCharsets.ISO_8859_1));
        no("end", x.end(21));
        no("end", x.end(-1));
        yes("end", x.end(20));
        yes("end", x.end(8));
        no("end", x.end(9));
        due("behind the eight", x.feed(0x6279206b, 0x6565703b, 0x20202020, 0x20202020, 0x20202020), 28);
        due("text", x.text(), 2);
        no("empty then", x.end(1));
    }

    private static void text() {
        start("15 text");
        due("nothing", x.text(), 0);
        rule("by most;by sum when 1=1;\nby keep ;", 3);
        due("look 4", x.look(4), 3);
        due("a fault", read("by most"), NONE);
        due("the rule stays", x.look(4), 3);
        no("the tape is empty", x.end(1));
        due("the same once more", x.text(), 0);
        due("an empty one", x.look(4), 0);
        rule("by keep;by keep;by keep;by keep;by keep;by keep;by keep;by keep;"
            + "by keep;by keep;by keep;by keep;by keep;by keep;by keep;by keep;", 16);
        rule("  \n ", 0);
        rule("by most when((((((((1=1))))))));", 1);
        rule("by most when not not not not not not not not 1=1;", 1);
        rule("by most when not(not(not(not(1=1))))and(((((((1<2)))))))or not(((((((1<2)))))));", 1);
        rule("by most when 9999*0000-wall/0001+seers*all-great=colour/3+year;", 1);
        String line = "by sum when all+all+all+all+all+all+all+all+all+all+all+all+all+all+all+all+all+all+all+all";
        StringBuilder most = new StringBuilder(line);
        for (int i = 0; most.length() < 398; i++) most.append(i % 2 == 0 ? "+1" : "*1");
        due("four hundred bytes have no place for the end", read(most.substring(0, 397) + "=1;"), 1);
    }

    private static void conditions() {
        start("15 text, conditions");
        walls(0, 1);
        people(0, 1, 2);
        views(0, 10, 0);
        views(1, 20, 5);
        views(2, 0, 30);
        for (int p = 0; p < 3; p++) tastes(p, 0, 0, 1);
        String[] onlyFirst = {"wall=0", "all<35", "all=30", "great<30", "great=20", "colour=0", "not wall=1", "wall<1",
            "1>wall", "wall=0 and seers=2", "wall=0 or wall=2", "wall=2 or wall=0", "not(wall=1 and seers=2)",
            "not wall=1 and seers=2", "all-great=10", "all/7=4", "0-all/7=0-4", "great*2+1=41", "1+2*3=7+wall",
            "10-3-2=5-wall", "100/7/2=7-wall", "2*7/3=4+wall", "7/3*2=4+wall", "year=wall", "seers+wall=2",
            "1=2 and 1=1 or wall=0", "wall=0 or 1=1 and 1=2", "wall=0 and(1=2 or 1=1)", "not(wall=1)", "not not wall=0"};
        for (String b : onlyFirst) {
            rule("by most when " + b + ";", 1);
            judged(2, 1);
        }
        String[] none = {"1=2", "1<1", "1>1", "not 1=1", "1=1 and 1=2", "not(1=2 or 1=1)", "seers<2", "wall-1<0-1",
            "not 1=2 and 1=2", "9999*9999*9999*9999=0"};
        for (String b : none) {
            rule("by most when " + b + ";", 1);
            judged(0, 1);
        }
        // 46368 times 46368 is 2149991424, which wraps to -2144975872
        rule("by most when 5796*8*5796*8<0;", 1);
        judged(2, 2);
        // towards 0: -2144975872 / 9999 is -214519.03
        rule("by most when 5796*8*5796*8/9999+9999*21+4540=0;", 1);
        judged(2, 2);
        // towards 0: -7 / 2 is -3
        rule("by most when 0-7/2=0-3;", 1);
        judged(2, 2);
        rule("by most when year=0;", 1);
        due("years", x.years(1), 1);
        judged(x.colour(0, 0), x.colour(1, 0));
    }

    private static void faults() {
        start("16 fault");
        due("fault 2", x.fault(2), NONE);
        due("fault -1", x.fault(-1), NONE);
        rule("by most;", 1);
        fault("by ", 1, 3);
        fault("by", 1, 2);
        fault("by most", 1, 7);
        fault("by most ", 1, 8);
        fault("by most  when", 1, 13);
        fault("by most when 1", 1, 14);
        fault("by most when 1=", 1, 15);
        fault("by most when 1=1", 1, 16);
        fault("by most when (1=1;", 1, 17);
        fault("by most when (1=1", 1, 17);
        fault("by most when 1=1);", 1, 16);
        fault("by most when not;", 1, 16);
        fault("by most when ();", 1, 14);
        fault("by most when (1)=1;", 1, 15);
        fault("by most when 1=1=1;", 1, 16);
        fault("by most when 1=(1);", 1, 15);
        fault("by most when 1+(1)=2;", 1, 15);
        fault("by most when 1=-1;", 1, 15);
        fault("by most when 1=not 1;", 1, 15);
        fault("by most when 1=1 and;", 1, 20);
        fault("by most when 1=1 or or;", 1, 20);
        fault("by most when 1=1 not 1=1;", 1, 17);
        fault("by most when 1=1 when 1=1;", 1, 17);
        fault("by most when by;", 1, 13);
        fault("by most when keep=1;", 1, 13);
        fault("by most when 1/wall=1;", 1, 15);
        fault("by most when 1/;", 1, 15);
        fault("by most when 1/(1)=1;", 1, 15);
        fault("by most when 1/0=1;", 2, 15);
        fault("by most when 1/ 0000=1;", 2, 16);
        fault("by most when 1/00000=1;", 1, 15);
        fault("by most when 1/0 $", 2, 15);
        fault("by most when 1 $ 1/0=1;", 1, 15);
        fault("by most when 12345=1;", 1, 13);
        fault("by most when 1=12345;", 1, 15);
        fault("by most when 1=1;12345", 1, 17);
        fault("by most keep;", 1, 8);
        fault("by most;;", 1, 8);
        fault("by most,", 1, 7);
        fault("by most.", 1, 7);
        fault("by\tmost;", 1, 2);
        fault("by\rmost;", 1, 2);
        fault("By most;", 1, 0);
        fault("by Most;", 1, 3);
        fault("by MOST;", 1, 3);
        fault("bymost;", 1, 0);
        for (String letter : new String[] {"a", "z", "A", "Z"}) fault("by" + letter, 1, 0);
        for (String none : new String[] {"@", "[", "`", "{", "/", ":", "\u00e1", "\u00ff", "\u0000", "\u00a0"}) fault("by" + none, 1, 2);
        for (String none : new String[] {"/", ":"}) fault("by most when 1" + none, 1, none.equals("/") ? 15 : 14);
        fault("by mostwhen 1=1;", 1, 3);
        fault("by mos;", 1, 3);
        fault("by mostt;", 1, 3);
        fault("by wall;", 1, 3);
        fault("by year;", 1, 3);
        fault("by when;", 1, 3);
        fault("by 1;", 1, 3);
        fault("\u00e9", 1, 0);
        fault(";", 1, 0);
        fault("most;", 1, 0);
        fault("by most when 1year=1;", 1, 14);
        due("the rule stays", x.look(4), 1);
        due("the latest text alone", x.text(), 0);
        due("fault 0", x.fault(0), 0);
        due("fault 1", x.fault(1), NONE);
    }

    private static void manyFaults() {
        start("16 fault, too many");
        String eight = "by keep;by keep;by keep;by keep;by keep;by keep;by keep;by keep;";
        fault(eight + eight + " by keep;", 3, 129);
        fault(eight + eight + "by", 3, 128);
        fault(eight + eight + "keep;", 1, 128);
        fault(eight + eight + ";", 1, 128);
        fault(eight + eight + "$", 1, 128);
        fault("by most when (((((((((1=1", 3, 21);
        fault("by most when ((((not((((1=1", 3, 23);
        fault("by most when (((( not((( not 1=1", 3, 25);
        fault("by most when not not not not not not not not not 1=1;", 3, 45);
        fault("by most when not not not not not not not not 1=1 and not not 1=1 and (((((((((", 3, 77);
        fault("by most when ((((((((1=1 and (1=1", 3, 29);
        fault("by most when ((((((((1=1) and (1=1) and ((1=1", 3, 41);
        fault("by most when (((((((( when", 1, 22);
        fault("by most when ((((((((1(", 1, 22);
        rule("by most when ((((((((1=1) and (1=1)))))))) or ((((((((1=1))))))));", 1);
        rule("by most when (((((((not 1=1 and not 1=1)))))));", 1);
        fault("by most when (((((((not (1=1", 3, 24);
        // keywords and numbers need no blanks between
        rule("by most when1=1and2=2or3<4;", 1);
    }

    private static void sees() {
        start("17 sees");
        walls(0, 0);
        people(4, 6);
        views(4, 7, 8);
        views(6, 1, 2);
        due("sees", x.sees(0, 0), 7);
        due("sees", x.sees(0, 1), 8);
        due("sees", x.sees(1, 1), 2);
        due("sees", x.sees(2, 0), NONE);
        due("sees", x.sees(-1, 0), NONE);
        due("sees", x.sees(0, 2), NONE);
        due("sees", x.sees(0, -1), NONE);
        yes("move", x.move(0, 6));
        due("sees", x.sees(0, 0), 1);
        due("sees", x.sees(1, 0), 7);
        yes("move", x.move(0, 0));
        due("sees", x.sees(0, 0), 0);
    }

    private static void worth() {
        start("18 worth");
        due("worth", x.worth(0), NO_SUM);
        walls(0, 1, 1, 1);
        people(0, 1);
        views(0, 1, 2, 3, 4);
        tastes(0, 5, -7, 9);
        due("worth", x.worth(0), 5 - 14 - 21 - 28);
        due("worth", x.worth(1), 0);
        yes("tell", x.tell(0, 2, 0, 4));
        yes("beside", x.beside(0, 1, true));
        due("unlike colours", x.worth(0), -58);
        yes("beside", x.beside(3, 1, true));
        due("worth", x.worth(0), -58 + 8);
        yes("beside", x.beside(3, 2, true));
        due("worth", x.worth(0), -58 + 8 + 12);
        due("worth", x.worth(2), NO_SUM);
        due("worth", x.worth(-1), NO_SUM);
        due("worth", x.worth(HIGH), NO_SUM);
    }

    private static void colour() {
        start("19 colour");
        walls(1, 2);
        people(0);
        views(0, 5, 0);
        tastes(0, 3, 0, 0);
        rule("by most;", 1);
        due("now", x.colour(0, 0), 1);
        due("judged", x.colour(0, 1), 0);
        due("best", x.colour(0, 2), 0);
        due("without seers", x.colour(1, 1), 2);
        due("best, the lesser", x.colour(1, 2), 0);
        due("colour", x.colour(0, 3), NONE);
        due("colour", x.colour(0, -1), NONE);
        for (int what = 0; what < 3; what++) {
            due("colour", x.colour(2, what), NONE);
            due("colour", x.colour(-1, what), NONE);
        }
        painting(1, 2);
    }

    private static void methods() {
        start("19 colour, methods");
        walls(0, 0, 0);
        people(0, 1, 2, 3);
        views(0, 10, 1, 0);
        views(1, 10, 1, 0);
        views(2, 6, 9, 0);
        views(3, 6, 0, 0);
        tastes(0, 0, 5, 5);
        tastes(1, 1, 0, 9);
        tastes(2, -1, -2, 0);
        tastes(3, -9, -8, -9);
        // favourites 1, 2, 2, 1
        rule("by most;", 1);
        judged(1, 2, 0);
        rule("by window;", 1);
        judged(1, 2, 0);
        rule("by yards;", 1);
        judged(1, 2, 0);
        yes("tell", x.tell(3, 1, 2, 9));
        rule("by yards;", 1);
        judged(2, 2, 0);
        // wall 0: 0: 10 - 6 - 54, 1: 50 - 12 - 48, 2: 50 + 90 + 54; wall 1: 0: 1 - 9, 1: 5 - 18, 2: 5 + 9
        rule("by sum;", 1);
        judged(2, 2, 0);
        yes("tell", x.tell(1, 1, 2, -9));
        yes("tell", x.tell(3, 1, 2, -9));
        // wall 0: 0: -50, 1: -10, 2: 50 - 90 - 54; wall 1: 0: -8, 1: -13, 2: 5 - 9
        judged(1, 2, 0);
        // favourites 1, 0, 2, 1
        rule("by most;", 1);
        judged(1, 2, 0);
        yes("view", x.view(1, 0, 11));
        judged(0, 2, 0);
        rule("by window;", 1);
        judged(1, 0, 0);
        rule("by yards;", 1);
        judged(1, 2, 0);
        yes("view", x.view(1, 0, 16));
        judged(0, 2, 0);
        rule("by keep;", 1);
        judged(0, 0, 0);
        rule("by turn;", 1);
        judged(1, 0, 0);
        due("years", x.years(1), 1);
        // wall 0 by person 1, wall 1 by person 2, wall 2 by person 3, who does not see it
        judged(0, 2, 0);
        rule("by keep when wall=0;by turn when seers>0;by most;", 3);
        judged(x.colour(0, 0), 2, 0);
    }

    private static void atOnce() {
        start("19 colour, judged at once");
        walls(0, 1, 2);
        people(0);
        views(0, 1, 1, 1);
        tastes(0, 0, 0, 1);
        rule("by most when colour=0 or colour=1;", 1);
        judged(2, 2, 2);
        painting(0, 1, 2);
        tastes(0, 0, 1, 0);
        judged(1, 1, 2);
    }

    private static void become() {
        start("20 become");
        due("become", x.become(1), 0);
        walls(1, 2, 0, 1);
        people(0);
        views(0, 5, 0, 3, 2);
        tastes(0, 3, 2, 1);
        rule("by most;", 1);
        due("become", x.become(0), NONE);
        due("become", x.become(3), NONE);
        due("become", x.become(-1), NONE);
        painting(1, 2, 0, 1);
        due("as judged", x.become(1), 2);
        painting(0, 2, 0, 0);
        due("once more", x.become(1), 0);
        yes("pot", x.pot(0, 11));
        best(1, 1, 1, 1);
        due("best", x.become(2), 4);
        painting(1, 1, 1, 1);
        due("best once more", x.become(2), 0);
    }

    private static void gains() {
        start("21 gains");
        due("gains", x.gains(0, 0), NO_SUM);
        walls(0);
        people(0, 1, 2);
        views(0, 10);
        views(1, 6);
        views(2, 3);
        tastes(0, 9, 0, -1);
        tastes(1, -9, 0, 2);
        tastes(2, 0, 1, 0);
        rule("by sum;", 1);
        // 0: 90 - 54, 1: 3, 2: -10 + 12
        judged(0);
        // one who says -9, -9, 9: 0: 36, 1: -51, 2: 44
        due("the best saying", x.gains(1, 0), 2);
        due("its gain", x.gains(1, 1), 66);
        due("who has it already", x.gains(0, 0), NONE);
        due("who has it already", x.gains(0, 1), 0);
        // 0: 9, 1: 27, 2: -25
        due("the best saying", x.gains(2, 0), 1);
        due("its gain", x.gains(2, 1), 3);
        yes("view", x.view(2, 0, 1));
        due("who is too weak", x.gains(2, 0), NONE);
        due("who is too weak", x.gains(2, 1), 0);
        yes("view", x.view(2, 0, 3));
        due("gains", x.gains(1, 2), NO_SUM);
        due("gains", x.gains(1, -1), NO_SUM);
        due("gains", x.gains(3, 0), NO_SUM);
        due("gains", x.gains(-1, 1), NO_SUM);
        // he says colour 1 already: -9, 9, 3, by which 0 stays
        yes("tell", x.tell(1, 1, 1, 9));
        // 0: 36, 1: 54 + 3, 2: 2: judged 1; else 2 for 12 more
        judged(1);
        due("the gain beyond what is judged as said", x.gains(1, 1), 12);
        due("nothing was said", x.colour(0, 1), 1);
        tastes(1, 5, 7, 7);
        yes("tell", x.tell(1, 1, 1, -9));
        judged(0);
        due("of several the least", x.gains(1, 0), 1);
        due("its gain", x.gains(1, 1), 12);
    }

    private static void bestOf() {
        start("22 best");
        for (int what = 0; what < 3; what++) due("best", x.best(what), 0);
        due("best", x.best(3), NO_SUM);
        due("best", x.best(-1), NO_SUM);
        due("best", x.best(10), NO_SUM);
        walls(0, 0);
        due("without people", x.best(0), 0);
        yes("pot", x.pot(0, 5));
        due("pots without people", x.best(0), 0);
        best(1, 1);
        yes("pot", x.pot(1, 3));
        yes("pot", x.pot(2, 4));
        due("pots", x.best(1), 3);
        due("less pots", x.best(0), -3);
        due("lack", x.best(2), 3);
        people(0, 1);
        views(0, 2, 0);
        views(1, 0, 3);
        tastes(0, 4, 0, 0);
        tastes(1, 0, 0, 2);
        // 0 on wall 0: 8, 2 on wall 1: 6, pots 9; all 0: 8 - 5; all 2: 6 - 4; all 1: -3
        best(0, 2);
        due("best", x.best(0), 5);
        due("pots", x.best(1), 9);
        // without 0: all 2: 2, less 6 - 9; without 1: all 0: 3, less 8 - 9
        due("due of 0", x.best(10), 5);
        due("due of 1", x.best(11), 4);
        due("lack", x.best(2), 0);
        due("no such one", x.best(12), NO_SUM);
        due("best", x.best(9), NO_SUM);
        due("best", x.best(LOW), NO_SUM);
        yes("tell", x.tell(0, 2, 0, 9));
        yes("beside", x.beside(0, 1, true));
        yes("view", x.view(0, 1, 1));
        // all 0: 8 + 4 + 9 - 5; 0 and 2: 5
        best(0, 0);
        due("with neighbours", x.best(0), 16);
        due("pots once", x.best(1), 5);
        // without 0: 2 - (0 - 5); without 1: 16 - (21 - 5)
        due("due of 0", x.best(10), 7);
        due("due of 1", x.best(11), 0);
        due("lack", x.best(2), -2);
    }

    private static void firstOfSeveral() {
        start("22 best, of several the first");
        walls(2, 2);
        people(0);
        views(0, 1, 1);
        tastes(0, 1, 1, 0);
        yes("beside", x.beside(0, 1, true));
        yes("tell", x.tell(0, 2, 0, -1));
        // 0 1 and 1 0 are worth the same
        best(0, 1);
        yes("colours", x.colours(4));
        walls(0, 0, 0, 0, 0, 0, 0);
        people(0);
        views(0, 1, 1, 1, 1, 1, 1, 99);
        tastes(0, 0, 0, 0, 9);
        best(3, 3, 3, 3, 3, 3, 3);
        due("best", x.best(0), 9 * 105);
    }

    private static void trade() {
        start("23 trade");
        due("trade", x.trade(), 0);
        walls(0, 0);
        people(0, 1);
        views(0, 10, 1);
        views(1, 1, 10);
        tastes(0, 0, 3, -1);
        tastes(1, 0, -1, 3);
        // 0 bears wall 1 in 2 for wall 0 in 1: 30 - 1 each; 0 1 alone would leave 1 with less
        due("trade", x.trade(), 1);
        painting(1, 2);
        due("no more", x.trade(), 0);
        painting(1, 2);
        yes("paint", x.paint(0, 0));
        // now wall 0 alone would cost 1 something, and both cannot gain
        due("both must gain", x.trade(), 0);
        tastes(1, 0, 0, 3);
        due("more, not as much", x.trade(), 0);
        tastes(1, 0, 1, 3);
        due("one wall alone", x.trade(), 1);
        painting(1, 2);
        yes("colours", x.colours(3));
        walls(0);
        people(0, 1);
        views(0, 1);
        views(1, 1);
        tastes(0, 0, 1, 0);
        tastes(1, 0, 1, 0);
        due("no two walls", x.trade(), 0);
    }

    private static void rounds() {
        start("23 trade, in their order");
        walls(0, 0, 0);
        people(0, 1, 2);
        for (int h = 0; h < 3; h++) views(h, 1, 1, 1);
        tastes(0, 0, 1, 2);
        tastes(1, 0, 1, 2);
        tastes(2, 0, 2, 1);
        due("five rounds", x.stand(), 6);
        // 0 and 1 come to 0 1 0, then 0 and 2 to 1 1 0, then 1 and 2 to 1 1 1
        due("each couple one", x.trade(), 3);
        painting(1, 1, 1);
        // 0 and 2 cannot both have more now, nor 1 and 2
        for (int left = 3; left > 0; left--) {
            due("0 and 1 alone", x.trade(), 1);
            if (left == 3) painting(1, 2, 1);
            if (left == 2) painting(2, 2, 1);
            if (left == 1) painting(2, 2, 2);
        }
        due("no more", x.trade(), 0);
    }

    // Two who like the same, so that each round has one trade at most, always upwards.
    private static void longStand(int trades, int answer, int[] yards, int[] likings) {
        start("24 stand, " + trades + " rounds with a trade");
        yes("colours", x.colours(4));
        walls(0, 0, 0, 0, 0, 0, 0);
        people(0, 1);
        for (int p = 0; p < 2; p++) {
            views(p, yards);
            tastes(p, likings);
        }
        due("stand", x.stand(), answer);
        for (int n = 0; n < trades; n++) due("trade", x.trade(), 1);
        due("trade", x.trade(), 0);
    }

    private static void noRest() {
        start("24 stand, no rest");
        walls(0, 0);
        people(0, 1, 2);
        for (int h = 0; h < 3; h++) views(h, 1, 0);
        // 0 and 1 would both rather have 1 than 2, 0 and 2 rather 0 than 1, 1 and 2 rather 2 than 0
        tastes(0, 3, 2, 1);
        tastes(1, 1, 3, 2);
        tastes(2, 2, 1, 3);
        due("stand", x.stand(), NONE);
        painting(0, 0);
        due("1 and 2", x.trade(), 1);
        painting(2, 0);
        due("all three", x.trade(), 3);
        painting(2, 0);
        due("stand", x.stand(), NONE);
    }

    private static void stand() {
        start("24 stand");
        due("stand", x.stand(), 0);
        walls(0, 0);
        people(0, 1);
        views(0, 10, 1);
        views(1, 1, 10);
        tastes(0, 0, 3, -1);
        tastes(1, 0, -1, 3);
        due("stand", x.stand(), 1);
        painting(0, 0);
        due("in thought", x.stand(), 1);
        due("trade", x.trade(), 1);
        due("stand", x.stand(), 0);
    }

    private static void hope() {
        start("25 hope");
        due("hope", x.hope(0, 0, 1, 0, 0), -10);
        walls(0, 0);
        due("without people", x.hope(0, 1, 1, 0, 0), -10);
        people(0, 1, 2);
        for (int h = 0; h < 3; h++) views(h, 5, 0);
        tastes(0, 0, 2, 0);
        tastes(1, 0, 2, 0);
        tastes(2, 0, 1, 0);
        // gains 10, 10, 5; fee 7
        due("one payer", x.hope(0, 1, 1, 7, 0), 2);
        due("the least", x.hope(0, 1, 1, 7, 1), 1);
        // nobody, or 0 and 1
        due("two payers", x.hope(0, 1, 2, 7, 0), 2);
        due("the least", x.hope(0, 1, 2, 7, 1), 0);
        due("three payers", x.hope(0, 1, 3, 7, 0), 1);
        due("three payers", x.hope(0, 1, 3, 5, 0), 2);
        due("as dear as it is worth", x.hope(0, 1, 1, 10, 0), 3);
        due("the least", x.hope(0, 1, 1, 10, 1), 0);
        due("without a fee", x.hope(0, 1, 1, 0, 0), 7);
        due("without a fee", x.hope(0, 1, 1, 0, 1), 1);
        due("without a fee, as it is", x.hope(0, 0, 1, 0, 0), 8);
        due("the dearest", x.hope(0, 1, 1, 9999, 0), 1);
        due("hope", x.hope(0, 1, 1, 10000, 0), -10);
        due("hope", x.hope(0, 1, 1, -1, 0), -10);
        due("hope", x.hope(0, 1, 0, 7, 0), -10);
        due("hope", x.hope(0, 1, 4, 7, 0), -10);
        due("hope", x.hope(2, 1, 1, 7, 0), -10);
        due("hope", x.hope(-1, 1, 1, 7, 0), -10);
        due("hope", x.hope(0, 3, 1, 7, 0), -10);
        due("hope", x.hope(0, -1, 1, 7, 0), -10);
        due("hope", x.hope(0, 1, 1, 7, 2), -10);
        due("hope", x.hope(0, 1, 1, 7, -1), -10);
        tastes(0, 0, -9, 0);
        tastes(1, 0, -9, 0);
        tastes(2, 0, 2, 0);
        due("one who wants it pays", x.hope(0, 1, 1, 3, 1), 4);
        painting(0, 0);
        // one pays to have it, another one, if it is had so, pays no more, since one is needed: no rest
        due("the second wall is not seen", x.hope(1, 1, 1, 0, 0), 8);
    }

    private static void homes() {
        start("26 homes");
        due("homes", x.homes(0), 0);
        due("homes", x.homes(10), NO_SUM);
        walls(1, 2);
        people(4, 0);
        due("homes", x.homes(10), 0);
        due("homes", x.homes(11), 1);
        views(4, 10, 0);
        views(6, 0, 20);
        views(7, 9, 20);
        tastes(0, 0, 1, 1);
        tastes(1, 0, 2, 1);
        // 0: 10, 20, 29 in 4, 6, 7; 1: 20, 20, 38: 6 and 7 is 58, 7 and 4 or 6 is 49
        due("the sum", x.homes(0), 58);
        due("house of 0", x.homes(10), 6);
        due("house of 1", x.homes(11), 7);
        due("no such one", x.homes(12), NO_SUM);
        due("homes", x.homes(1), NO_SUM);
        due("homes", x.homes(9), NO_SUM);
        due("homes", x.homes(-1), NO_SUM);
        due("nobody moved", x.look(10), 4);
        tastes(0, 0, 0, 0);
        due("of several the first", x.homes(10), 0);
        due("of several the first", x.homes(11), 7);
        tastes(1, 0, -1, -1);
        due("the sum", x.homes(0), 0);
        due("house of 0", x.homes(10), 0);
        due("house of 1", x.homes(11), 1);
        due("tree", x.tree(7, 1, 5), 0);
        due("years", x.years(2), 2);
        tastes(1, 0, 0, 1);
        yes("paint", x.paint(0, 1));
        yes("paint", x.paint(1, 2));
        due("trees hide", x.homes(11), 6);
        due("trees hide", x.homes(0), 20);
    }

    private static void allHouses() {
        start("26 homes, seven people");
        walls(0);
        people(7, 6, 5, 4, 3, 2, 1);
        for (int h = 0; h < 8; h++) views(h, 10 * h);
        for (int p = 0; p < 7; p++) tastes(p, p - 3);
        // the more one likes it the more he gets: 3, 2, 1 see 70, 60, 50; -3, -2, -1 see 0, 10, 20
        due("the sum", x.homes(0), 210 + 120 + 50 - 0 - 20 - 20);
        int[] houses = {0, 1, 2, 3, 5, 6, 7};
        for (int p = 0; p < 7; p++) due("house of " + p, x.homes(10 + p), houses[p]);
    }

    private static void swap() {
        start("27 swap");
        due("swap", x.swap(), NONE);
        walls(0, 1);
        people(0, 1, 2);
        views(0, 10, 0);
        views(1, 0, 10);
        views(2, 0, 9);
        due("swap", x.swap(), NONE);
        tastes(0, 0, 1, 0);
        due("one alone", x.swap(), NONE);
        tastes(2, 1, 0, 0);
        due("0 and 2", x.swap(), 2);
        tastes(1, 1, 0, 0);
        due("0 and 1 is ahead", x.swap(), 1);
        yes("move", x.move(0, 1));
        due("swap", x.swap(), NONE);
        tastes(0, 0, 0, 0);
        due("as much is not greater", x.swap(), NONE);
        tastes(2, 0, 0, 0);
        tastes(1, 0, 1, 0);
        due("one alone", x.swap(), NONE);
        tastes(2, 1, 0, 0);
        due("1 and 2", x.swap(), 12);
    }

    private static void deed() {
        start("28 deed");
        no("none there", x.deed(0, 0, 1));
        people(0, 1);
        no("one colour", x.deed(0, 1, 1));
        no("deed", x.deed(2, 0, 1));
        no("deed", x.deed(-1, 0, 1));
        no("deed", x.deed(0, 3, 1));
        no("deed", x.deed(0, 1, 3));
        no("deed", x.deed(0, -1, 1));
        no("deed", x.deed(0, 1, -1));
        due("look 7", x.look(7), 0);
        for (int i = 0; i < 39; i++) yes("deed", x.deed(i % 2, 0, 1));
        yes("the fortieth", x.deed(1, 1, 2));
        no("a forty-first", x.deed(1, 2, 0));
        due("look 7", x.look(7), 40);
        due("must", x.must(1, 0, 2), 1);
        due("must", x.must(1, 0, 0), 0);
        due("must", x.must(0, 0, 2), 0);
    }

    private static void must() {
        start("29 must");
        yes("colours", x.colours(4));
        due("none there", x.must(0, 0, 1), NONE);
        people(0, 1);
        yes("deed", x.deed(0, 2, 1));
        due("must", x.must(0, 2, 1), 1);
        due("must", x.must(0, 1, 2), 0);
        due("of another one", x.must(1, 2, 1), 0);
        yes("deed", x.deed(0, 1, 0));
        due("by a row", x.must(0, 2, 0), 1);
        yes("deed", x.deed(0, 3, 2));
        due("by a longer row", x.must(0, 3, 0), 1);
        due("must", x.must(0, 0, 3), 0);
        due("not torn", x.must(0, 3, 3), 0);
        yes("deed", x.deed(0, 1, 2));
        due("torn", x.must(0, 1, 1), 1);
        due("torn in any colour", x.must(0, 3, 3), 1);
        due("must", x.must(0, 1, 2), 1);
        due("the other is not torn", x.must(1, 1, 1), 0);
        due("must", x.must(2, 0, 1), NONE);
        due("must", x.must(-1, 0, 1), NONE);
        due("must", x.must(0, 4, 1), NONE);
        due("must", x.must(0, 1, 4), NONE);
        due("must", x.must(0, -1, 1), NONE);
        due("must", x.must(0, 4, 4), NONE);
        yes("deed", x.deed(1, 0, 3));
        yes("deed", x.deed(1, 2, 0));
        yes("deed", x.deed(1, 3, 1));
        due("against the numbers", x.must(1, 2, 1), 1);
        due("against the numbers", x.must(1, 1, 2), 0);
    }

    private static void looksOf() {
        start("30 looks");
        no("looks", x.looks(-1, 0));
        no("looks", x.looks(9, 0));
        no("looks", x.looks(0, -1));
        no("looks", x.looks(0, 100));
        yes("looks", x.looks(8, 99));
        yes("looks", x.looks(0, 0));
        due("way", x.way(8, 8, 1, 0), 99);
        yes("looks", x.looks(8, 1));
        due("way", x.way(8, 8, 1, 0), 1);
        due("way", x.way(0, 0, 1, 0), 0);
    }

    private static void link() {
        start("31 link");
        no("link", x.link(0, 0, true));
        no("link", x.link(-1, 0, true));
        no("link", x.link(0, 9, true));
        no("link", x.link(9, 0, false));
        due("none at first", x.way(0, 8, 9, 1), NONE);
        yes("link", x.link(0, 8, true));
        due("way", x.way(0, 8, 9, 1), 2);
        due("either way", x.way(8, 0, 9, 1), 2);
        yes("none", x.link(8, 0, false));
        due("way", x.way(0, 8, 9, 1), NONE);
        due("either way", x.way(8, 0, 9, 1), NONE);
    }

    private static void way() {
        start("32 way");
        for (int i = 0; i < 9; i++) yes("looks", x.looks(i, i == 7 ? 0 : 10));
        for (int i = 0; i < 8; i++) yes("link", x.link(i, i + 1, true));
        due("looks", x.way(0, 8, 9, 0), 80);
        due("places", x.way(0, 8, 9, 1), 9);
        for (int i = 0; i < 9; i++) due("place " + i, x.way(0, 8, 9, 10 + i), i);
        due("way", x.way(0, 8, 9, 19), NONE);
        due("way", x.way(0, 8, 9, 9), NONE);
        due("way", x.way(0, 8, 9, 2), NONE);
        due("way", x.way(0, 8, 9, -1), NONE);
        due("way", x.way(0, 8, 9, LOW), NONE);
        due("too few", x.way(0, 8, 8, 0), NONE);
        due("too few", x.way(0, 8, 8, 1), NONE);
        due("way", x.way(0, 8, 0, 0), NONE);
        due("way", x.way(0, 8, 10, 0), NONE);
        due("way", x.way(-1, 8, 9, 0), NONE);
        due("way", x.way(9, 8, 9, 0), NONE);
        due("way", x.way(0, 9, 9, 0), NONE);
        due("way", x.way(0, -1, 9, 0), NONE);
        due("from it to it", x.way(3, 3, 9, 0), 10);
        due("from it to it", x.way(3, 3, 1, 1), 1);
        due("from it to it", x.way(3, 3, 1, 10), 3);
        due("from it to it", x.way(3, 3, 1, 11), NONE);
        yes("link", x.link(0, 2, true));
        due("most looks", x.way(0, 3, 9, 1), 4);
        due("at most", x.way(0, 3, 3, 1), 3);
        due("at most", x.way(0, 3, 3, 11), 2);
        yes("looks", x.looks(1, 0));
        due("of several the first", x.way(0, 3, 9, 11), 1);
        due("of several the first", x.way(0, 3, 9, 0), 30);
        due("of several the first", x.way(2, 0, 9, 11), 0);
        due("of several the first", x.way(2, 0, 9, 1), 2);
    }

    private static void years() {
        start("33 years");
        for (int n : new int[] {LOW, -1, 0, 61, HIGH}) due("years", x.years(n), NONE);
        due("years", x.years(1), 1);
        for (int i = 0; i < 16; i++) due("years", x.years(60), 61 + 60 * i);
        due("beyond", x.years(39), NONE);
        due("look 5", x.look(5), 961);
        due("years", x.years(38), 999);
        due("beyond", x.years(1), NONE);
        due("no draws without walls", x.look(6), 0);
        people(0);
        yes("colours", x.colours(3));
        people(0);
        due("years", x.years(1), 1);
        due("no draws without walls", x.look(6), 0);
        yes("colours", x.colours(3));
        walls(0);
        due("years", x.years(1), 1);
        due("no draws without people", x.look(6), 0);
    }

    private static void night() {
        start("33 years, by night");
        walls(0, 0, 0);
        people(0, 1);
        views(0, 1, 1, 1);
        tastes(0, 1, 2, 2);
        tastes(1, 0, 0, 1);
        // by the draws: the person's and the wall's number
        int s = 12345;
        x.state(s);
        int[] colours = {0, 0, 0};
        for (int year = 1; year <= 12; year++) {
            s = 1664525 * s + 1013904223;
            int p = (s >>> 8) % 2;
            s = 1664525 * s + 1013904223;
            int w = (s >>> 8) % 3;
            if (p == 0) colours[w] = 1;
            due("years", x.years(1), year);
            painting(colours);
            due("state", x.look(6), s);
        }
        yes("said is not asked", x.tell(0, 1, 0, 9));
        due("years", x.years(20), 32);
        painting(1, 1, 1);
        // by day the rule, with what is said; then the night
        rule("by most when year=33;", 1);
        s = x.look(6);
        s = 1664525 * s + 1013904223;
        int p = (s >>> 8) % 2;
        s = 1664525 * s + 1013904223;
        int w = (s >>> 8) % 3;
        due("years", x.years(1), 33);
        painting(p == 0 && w == 0 ? 1 : 0, p == 0 && w == 1 ? 1 : 0, p == 0 && w == 2 ? 1 : 0);
    }

    private static void image() {
        start("34 image");
        no("none yet", x.image(false));
        fillAll();
        int drawn = x.look(6);
        int worth = x.worth(0);
        int said = x.colour(1, 1);
        int[] now = {x.colour(0, 0), x.colour(1, 0), x.colour(2, 0)};
        yes("taken", x.image(true));
        for (int time = 0; time < 2; time++) {
            yes("colours", x.colours(4));
            x.state(99 + time);
            walls(3, 3, 3, 3);
            people(7, 6, 5);
            views(0, 1, 1, 1, 1);
            tastes(0, -9, -9, -9, -9);
            due("tree", x.tree(5, 2, 50), 0);
            due("tree", x.tree(0, 1, 50), 1);
            due("years", x.years(3), 3);
            yes("deed", x.deed(0, 0, 1));
            yes("looks", x.looks(3, 50));
            fault("by most when 1/0=1;", 2, 15);
            feedText("by turn;by keep;by most;");
            yes("gone back to", x.image(false));
            int[] looks = {3, 3, 2, 1, 1, 2, drawn, 1};
            for (int what = 0; what < looks.length; what++) due("look " + what, x.look(what), looks[what]);
            due("house", x.look(10), 0);
            due("house", x.look(11), 5);
            due("pot", x.look(21), 44);
            due("worth", x.worth(0), worth);
            due("judged", x.colour(1, 1), said);
            painting(now);
            due("sees behind the tree", x.sees(0, 0), 7);
            due("sees", x.sees(1, 2), 5);
            due("must", x.must(0, 1, 0), 1);
            due("must", x.must(0, 0, 1), 0);
            due("way", x.way(3, 4, 9, 0), 7);
            due("fault stays", x.fault(0), 2);
            due("fault stays", x.fault(1), 15);
            due("the tape stays", x.text(), 3);
            yes("gone back to", x.image(false));
            due("the rule", x.look(4), 1);
            due("fault is not of it", x.fault(0), 0);
            yes("beside", x.beside(0, 1, false));
            yes("gone back to", x.image(false));
            due("worth", x.worth(0), worth);
        }
        yes("paint", x.paint(0, 2));
        yes("taken anew", x.image(true));
        yes("paint", x.paint(0, 1));
        yes("gone back to", x.image(false));
        due("the newer one", x.colour(0, 0), 2);
        due("the tape is not of it", x.text(), 0);
    }

    private static void look() {
        start("35 look");
        fillAll();
        int[] looks = {3, 3, 2, 1, 1, 2, x.state(4), 1};
        x.state(looks[6]);
        for (int what = 0; what < looks.length; what++) due("look " + what, x.look(what), looks[what]);
        due("look 8", x.look(8), NONE);
        due("look 9", x.look(9), NONE);
        due("look 10", x.look(10), 0);
        due("look 11", x.look(11), 5);
        due("look 12", x.look(12), NONE);
        due("look 19", x.look(19), NONE);
        due("look 20", x.look(20), 0);
        due("look 21", x.look(21), 44);
        due("look 22", x.look(22), 0);
        due("look 23", x.look(23), NONE);
        due("look -1", x.look(-1), NONE);
        due("look", x.look(LOW), NONE);
        due("look", x.look(HIGH), NONE);
    }

    public static void main(String[] args) {
        newObject();
        state();
        colours();
        besideIsCleared();
        pot();
        wall();
        person();
        move();
        view();
        tree();
        tell();
        beside();
        paint();
        feed();
        end();
        text();
        conditions();
        faults();
        manyFaults();
        sees();
        worth();
        colour();
        methods();
        atOnce();
        become();
        gains();
        bestOf();
        firstOfSeveral();
        trade();
        rounds();
        stand();
        longStand(29, 29, new int[] {10, 1, 6, 8, 1, 6, 11}, new int[] {-4, 2, 2, 7});
        longStand(30, NONE, new int[] {7, 4, 6, 6, 1, 4, 11}, new int[] {4, 4, 6, 7});
        noRest();
        hope();
        homes();
        allHouses();
        swap();
        deed();
        must();
        looksOf();
        link();
        way();
        years();
        night();
        image();
        look();
        System.out.println(wrong == 0 ? asked + " answers are as due" : wrong + " answers are not as due");
        if (wrong != 0) System.exit(1);
    }
}
