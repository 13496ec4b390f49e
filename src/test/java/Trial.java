import java.util.ArrayList;
import java.util.List;
import java.util.function.Consumer;

/** What the tests of the document's sentences share: a new object for each sentence, and the answers that are due. */
abstract class Trial {
    static final int NONE = -1;
    static final int NO_SUM = NONE - 99999;
    static final int NO_HOPE = NONE - 9;
    static final int LOW = Integer.MIN_VALUE;
    static final int HIGH = Integer.MAX_VALUE;
    static Counted x = new Counted();
    private static String sentence = "";
    private static int asked = 0;
    private static int wrong = 0;

    /** From now on this sentence of the document is tried, on a new object. */
    static void sentence(String text) {
        sentence = text;
        x = new Counted();
    }

    static void due(String call, int got, int want) {
        asked++;
        if (got != want) {
            wrong++;
            System.out.println("'" + sentence + "': " + call + " answered " + got + ", due is " + want);
        }
    }

    static void yes(String call, boolean got) {
        due(call, got ? 1 : 0, 1);
    }

    static void no(String call, boolean got) {
        due(call, got ? 1 : 0, 0);
    }

    static void painting(int... colours) {
        for (int w = 0; w < colours.length; w++) due("colour(" + w + ", 0)", x.colour(w, 0), colours[w]);
    }

    static void judged(int... colours) {
        for (int w = 0; w < colours.length; w++) due("colour(" + w + ", 1)", x.colour(w, 1), colours[w]);
    }

    static void best(int... colours) {
        for (int w = 0; w < colours.length; w++) due("colour(" + w + ", 2)", x.colour(w, 2), colours[w]);
    }

    /** On a new object: the text is a rule of so many lines. */
    static void reads(String text, int lines) {
        x = new Counted().fed(text);
        due("text() of " + text, x.text(), lines);
        due("fault(0) of " + text, x.fault(0), 0);
        due("fault(1) of " + text, x.fault(1), NONE);
        due("look(4) of " + text, x.look(4), lines);
        no("a tape behind " + text, x.end(1));
    }

    /** On a new object: the text has this fault at this place, and the rule stays as it was. */
    static void faulty(String text, int kind, int place) {
        x = new Counted().rule("by keep;by turn;").fed(text);
        due("text() of " + text, x.text(), NONE);
        due("fault(0) of " + text, x.fault(0), kind);
        due("fault(1) of " + text, x.fault(1), place);
        due("look(4) of " + text, x.look(4), 2);
        no("a tape behind " + text, x.end(1));
    }

    /** Both answer alike to whatever can be asked of them. */
    static void alike(Counted one, Counted other) {
        List<String> want = answersOf(one);
        List<String> got = answersOf(other);
        asked++;
        for (int i = 0; i < want.size(); i++) {
            if (!want.get(i).equals(got.get(i))) {
                wrong++;
                System.out.println("'" + sentence + "': " + got.get(i) + ", due is " + want.get(i));
                return;
            }
        }
    }

    /** What was made so answers afterwards as if these calls had not been. */
    static void leaves(Consumer<Counted> made, Consumer<Counted> calls) {
        Counted one = new Counted();
        made.accept(one);
        Counted other = new Counted();
        made.accept(other);
        calls.accept(other);
        alike(one, other);
    }

    /** A town in which something was told of everything, an image of it, and something told since. */
    static void fullTown(Counted t) {
        t.ofColours(4).pots(5, 0, 12, 999).walls(1, 1, 0).people(0, 5, 7);
        t.views(0, 9, 8, 7).views(5, 3, 4, 5).views(7, 20, 0, 1).views(2, 6, 6, 6);
        t.tastes(0, 1, 2, 3, -4).tastes(1, -1, 2, 5, 0).tastes(2, 9, -9, 0, 1).says(1, 0, 0, 9, 0);
        t.likesBeside(0, 5).likesBeside(1, -2).likesBeside(2, 3).neighbours(0, 1).neighbours(1, 2);
        t.planted(0, 0, 1).planted(7, 0, 3).rule("by sum when wall<2;by turn;").yearsGo(2);
        t.did(0, 1, 0).did(1, 2, 3).did(1, 3, 2).placeLooks(4, 1, 9, 9, 0, 7, 3, 99, 5).linked(0, 1, 2, 3, 8).linked(3, 0);
        t.state(77);
        t.imageTaken();
        t.pots(6).did(2, 0, 3).placeLooks(50).yearsGo(1).walls(2).linked(4, 5);
        faultIn(t);
        t.fed("by window;by keep;");
    }

    /** Fault 2 at place 15. */
    static void faultIn(Counted t) {
        t.fed("by most when 1/0=1;");
        t.text();
    }

    static List<String> answersOf(Counted t) {
        List<String> answers = new ArrayList<>();
        addFaultAndTape(answers, t);
        addTold(answers, t);
        addThought(answers, t);
        addWays(answers, t);
        addNextYear(answers, t);
        answers.add("image(false) " + t.image(false));
        addTold(answers, t);
        return answers;
    }

    private static void addFaultAndTape(List<String> answers, Counted t) {
        answers.add("fault(0) " + t.fault(0));
        answers.add("fault(1) " + t.fault(1));
        answers.add("look(4) " + t.look(4));
        addColours(answers, t, 1);
        answers.add("text() " + t.text());
        answers.add("fault(1) then " + t.fault(1));
    }

    private static void addColours(List<String> answers, Counted t, int what) {
        for (int w = 0; w < 7; w++) answers.add("colour(" + w + ", " + what + ") " + t.colour(w, what));
    }

    /** What was told as it is, but for the tape and the fault. */
    static void addTold(List<String> answers, Counted t) {
        for (int what = 0; what < 8; what++) answers.add("look(" + what + ") " + t.look(what));
        for (int what = 10; what < 17; what++) answers.add("look(" + what + ") " + t.look(what));
        for (int what = 20; what < 24; what++) answers.add("look(" + what + ") " + t.look(what));
        addColours(answers, t, 0);
        addColours(answers, t, 1);
        for (int p = 0; p < 7; p++) answers.add("worth(" + p + ") " + t.worth(p));
        for (int p = 0; p < 7; p++) {
            for (int w = 0; w < 4; w++) answers.add("sees(" + p + ", " + w + ") " + t.sees(p, w));
        }
    }

    private static void addThought(List<String> answers, Counted t) {
        addColours(answers, t, 2);
        for (int p = 0; p < 7; p++) answers.add("gains(" + p + ", 1) " + t.gains(p, 1));
        for (int what = 0; what < 17; what++) {
            if (what < 3 || what > 9) answers.add("best(" + what + ") " + t.best(what));
            if (what < 1 || what > 9) answers.add("homes(" + what + ") " + t.homes(what));
        }
        answers.add("stand() " + t.stand());
        answers.add("swap() " + t.swap());
        answers.add("hope(0, 2, 1, 3, 0) " + t.hope(0, 2, 1, 3, 0));
        for (int p = 0; p < 3; p++) {
            for (int a = 0; a < 4; a++) {
                for (int b = 0; b < 4; b++) answers.add("must(" + p + ", " + a + ", " + b + ") " + t.must(p, a, b));
            }
        }
    }

    private static void addWays(List<String> answers, Counted t) {
        for (int a = 0; a < 9; a++) {
            for (int b = 0; b <= a; b++) answers.add("way(" + a + ", " + b + ", 9, 0) " + t.way(a, b, 9, 0));
        }
    }

    private static void addNextYear(List<String> answers, Counted t) {
        answers.add("years(1) " + t.years(1));
        addColours(answers, t, 0);
        answers.add("look(6) then " + t.look(6));
        for (int w = 0; w < 4; w++) {
            for (int p = 0; p < 3; p++) answers.add("sees(" + p + ", " + w + ") then " + t.sees(p, w));
        }
    }

    static void finish() {
        System.out.println(wrong == 0 ? asked + " answers are as due" : wrong + " answers are not as due");
        if (wrong != 0) System.exit(1);
    }
}
