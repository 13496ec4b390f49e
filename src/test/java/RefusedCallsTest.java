import java.util.function.Consumer;

/** Promise by promise: the calls that can't be, what they answer, and that everything answers afterwards as without them. */
public final class RefusedCallsTest extends Trial {
    // As many as there are in the full town.
    private static final int COLOURS = 4;
    private static final int WALLS = 4;
    private static final int PEOPLE = 3;

    private static int[] outside(int least, int most) {
        return new int[] {LOW, least - 1, most + 1, HIGH};
    }

    private static void changesNothing(String promise, Consumer<Counted> calls) {
        sentence(promise);
        leaves(Trial::fullTown, calls);
    }

    private static void newObject() {
        sentence("Promise 1: No walls; three colours.");
        int[] looks = {3, 0, 0, 0, 0, 0, 0, 0, NONE, NONE};
        for (int what = 0; what < looks.length; what++) due("look(" + what + ")", x.look(what), looks[what]);
        for (int p = 0; p < 7; p++) due("look(" + (10 + p) + ")", x.look(10 + p), NONE);
        for (int c = 0; c < 4; c++) due("look(" + (20 + c) + ")", x.look(20 + c), c < 3 ? 0 : NONE);
        due("fault(0)", x.fault(0), 0);
        due("fault(1)", x.fault(1), NONE);
        due("colour(0, 0)", x.colour(0, 0), NONE);
        due("NONE", PaintedByOthers.NONE, NONE);
        yes("an empty tape", x.end(0));
        no("an empty tape", x.end(1));
        due("an empty tape", x.text(), 0);
    }

    private static void eachObjectByItself() {
        sentence("Promise 1: A new object");
        Counted other = new Counted();
        fullTown(other);
        alike(new Counted(), x);
    }

    private static void state() {
        Counted town = new Counted();
        fullTown(town);
        int was = town.look(6);
        changesNothing("Promise 2: STATE is told: what it was.", t -> {
            due("state(HIGH)", t.state(HIGH), was);
            due("state(LOW)", t.state(LOW), HIGH);
            due("state(" + was + ")", t.state(was), LOW);
        });
    }

    private static void colours() {
        changesNothing("Promise 3: false, and nothing is done, if it can't be.", t -> {
            for (int c : new int[] {LOW, -4, -1, 0, 1, 5, 6, HIGH}) no("colours(" + c + ")", t.colours(c));
        });
    }

    private static void pot() {
        changesNothing("Promise 4: A POT's price: true; false if one can't be.", t -> {
            for (int c : outside(0, COLOURS - 1)) no("pot(" + c + ", 5)", t.pot(c, 5));
            for (int price : outside(0, 999)) no("pot(1, " + price + ")", t.pot(1, price));
            no("pot(-1, 1000)", t.pot(-1, 1000));
        });
    }

    private static void wall() {
        changesNothing("Promise 5: NONE if one can't be", t -> {
            for (int c : outside(0, COLOURS - 1)) due("wall(" + c + ")", t.wall(c), NONE);
        });
        sentence("Promise 5: NONE if .. there are seven.");
        leaves(t -> t.walls(0, 1, 2, 0, 1, 2, 1), t -> {
            for (int c = -1; c < 4; c++) due("wall(" + c + ")", t.wall(c), NONE);
        });
    }

    private static void person() {
        changesNothing("Promise 6: NONE if one can't be (another one lives there)", t -> {
            for (int h : outside(0, 7)) due("person(" + h + ")", t.person(h), NONE);
            for (int h : new int[] {0, 5, 7}) due("person(" + h + ")", t.person(h), NONE);
        });
        sentence("Promise 6: NONE if .. there are seven.");
        leaves(t -> t.people(7, 6, 5, 4, 3, 2, 1), t -> {
            for (int h = -1; h < 9; h++) due("person(" + h + ")", t.person(h), NONE);
        });
    }

    private static void move() {
        changesNothing("Promise 7: true; false if one can't be.", t -> {
            for (int p : outside(0, PEOPLE - 1)) no("move(" + p + ", 3)", t.move(p, 3));
            for (int h : outside(0, 7)) no("move(1, " + h + ")", t.move(1, h));
            no("move(3, 8)", t.move(3, 8));
        });
        changesNothing("Promise 7: One moves to a HOUSE: to his own", t -> {
            yes("move(0, 0)", t.move(0, 0));
            yes("move(2, 7)", t.move(2, 7));
        });
        changesNothing("Promise 7: One moves to a HOUSE (who lives there moves to his)", t -> {
            yes("move(0, 7)", t.move(0, 7));
            due("look(10)", t.look(10), 7);
            due("look(12)", t.look(12), 0);
            yes("move(0, 5)", t.move(0, 5));
            due("look(10)", t.look(10), 5);
            due("look(11)", t.look(11), 7);
            yes("move(1, 5)", t.move(1, 5));
            yes("move(2, 7)", t.move(2, 7));
            due("look(10)", t.look(10), 0);
        });
    }

    private static void view() {
        changesNothing("Promise 8: Yards of a WALL .. true; false if one can't be.", t -> {
            for (int h : outside(0, 7)) no("view(" + h + ", 1, 5)", t.view(h, 1, 5));
            for (int w : outside(0, WALLS - 1)) no("view(5, " + w + ", 5)", t.view(5, w, 5));
            for (int yards : outside(0, 99)) no("view(5, 1, " + yards + ")", t.view(5, 1, yards));
        });
        sentence("Promise 8: .. without a WALL");
        no("view(0, 0, 5)", x.view(0, 0, 5));
        due("sees then", x.walls(0).people(0).sees(0, 0), 0);
    }

    private static void tree() {
        changesNothing("Promise 9: NONE if one can't be", t -> {
            for (int h : outside(0, 7)) due("tree(" + h + ", 1, 5)", t.tree(h, 1, 5), NONE);
            for (int w : outside(0, WALLS - 1)) due("tree(5, " + w + ", 5)", t.tree(5, w, 5), NONE);
            for (int growth : outside(0, 99)) due("tree(5, 1, " + growth + ")", t.tree(5, 1, growth), NONE);
        });
        sentence("Promise 9: NONE if .. there are twenty.");
        leaves(t -> {
            t.walls(0).people(0).views(0, 99);
            for (int n = 0; n < 20; n++) t.planted(0, 0, 1);
        }, t -> {
            due("tree(0, 0, 9)", t.tree(0, 0, 9), NONE);
            due("tree(-1, 0, 9)", t.tree(-1, 0, 9), NONE);
        });
    }

    private static void tell() {
        changesNothing("Promise 10: true; false if one can't be, or another what.", t -> {
            for (int what = 0; what < 3; what++) {
                for (int p : outside(0, PEOPLE - 1)) no("tell(" + p + ", " + what + ", 0, 5)", t.tell(p, what, 0, 5));
                for (int v : outside(-9, 9)) no("tell(0, " + what + ", 0, " + v + ")", t.tell(0, what, 0, v));
            }
            for (int what = 0; what < 2; what++) {
                for (int i : outside(0, COLOURS - 1)) no("tell(1, " + what + ", " + i + ", 5)", t.tell(1, what, i, 5));
            }
            for (int what : outside(0, 2)) no("tell(0, " + what + ", 0, 5)", t.tell(0, what, 0, 5));
            no("tell(0, 2, 9, 10)", t.tell(0, 2, 9, 10));
        });
    }

    private static void besideWithoutI() {
        sentence("Promise 10: 2 BESIDE (i not asked)");
        x.walls(0, 0).people(0).views(0, 1, 1).neighbours(0, 1);
        int v = -9;
        for (int i : new int[] {LOW, -1, 0, 2, 3, 4, HIGH}) {
            yes("tell(0, 2, " + i + ", " + v + ")", x.tell(0, 2, i, v));
            due("worth(0)", x.worth(0), v);
            v += 3;
        }
    }

    private static void beside() {
        changesNothing("Promise 11: Two WALLS are NEIGHBOURS or not: true; false if one can't be.", t -> {
            for (int w : outside(0, WALLS - 1)) {
                no("beside(" + w + ", 2, true)", t.beside(w, 2, true));
                no("beside(2, " + w + ", true)", t.beside(2, w, true));
                no("beside(" + w + ", 1, false)", t.beside(w, 1, false));
                no("beside(" + w + ", " + w + ", true)", t.beside(w, w, true));
            }
            for (int w = 0; w < WALLS; w++) {
                no("beside(" + w + ", " + w + ", true)", t.beside(w, w, true));
                no("beside(" + w + ", " + w + ", false)", t.beside(w, w, false));
            }
        });
        changesNothing("Promise 11: .. told once more", t -> {
            yes("beside(1, 0, true)", t.beside(1, 0, true));
            yes("beside(0, 2, false)", t.beside(0, 2, false));
        });
    }

    private static void paint() {
        changesNothing("Promise 12: A WALL gets a COLOUR: true; false if one can't be.", t -> {
            for (int w : outside(0, WALLS - 1)) no("paint(" + w + ", 3)", t.paint(w, 3));
            for (int c : outside(0, COLOURS - 1)) no("paint(0, " + c + ")", t.paint(0, c));
        });
        changesNothing("Promise 12: .. the COLOUR that it has", t -> {
            for (int w = 0; w < WALLS; w++) yes("paint", t.paint(w, t.colour(w, 0)));
        });
    }

    private static void feed() {
        sentence("Promise 13: NONE, and nothing comes, if there would be more than 400.");
        for (int n = 1; n <= 20; n++) due("feed", x.feed(0x62792020, 0, 0, 0, 0), 20 * n);
        due("at 400", x.feed(1, 2, 3, 4, 5), NONE);
        yes("end(400)", x.end(400));
        no("end(401)", x.end(401));
        yes("end(381)", x.end(381));
        due("at 381", x.feed(1, 2, 3, 4, 5), NONE);
        no("end(382)", x.end(382));
        yes("end(380)", x.end(380));
        due("at 380", x.feed(0, 0, 0, 0, 0), 400);
        yes("end(0)", x.end(0));
        due("at 0", x.feed(0, 0, 0, 0, 0), 20);
    }

    private static void feedBeyond() {
        sentence("Promise 13: NONE, and nothing comes");
        for (int length = 381; length <= 400; length++) {
            int bytes = length;
            leaves(t -> {
                fullTown(t);
                t.end(0);
                t.fed("by turn;" + " ".repeat(392));
                t.end(bytes);
            }, t -> {
                due("feed", t.feed(0x62792020, 1, 2, 3, 4), NONE);
                due("feed", t.feed(0, 0, 0, 0, 0), NONE);
            });
        }
    }

    private static void fedBytes() {
        sentence("Promise 13: Twenty bytes come behind the TAPE, of each number the highest first");
        x.feed(0x6279206d, 0x6f73743b, 0x62792073, 0x756d2077, 0x68656e20);
        due("feed", x.feed(0x313d3120, 0x3b0a2020, 0x62792074, 0x75726e20, 0x3b626579), 40);
        due("text()", x.text(), NONE);
        due("its place", x.fault(1), 37);
        for (int shift = 24; shift >= 0; shift -= 8) {
            for (int high = 0x80; high <= 0xff; high += 0x7f) {
                x.feed(high << shift | 0x20202020 & ~(0xff << shift), 0x20202020, 0x20202020, 0x20202020, 0x20202020);
                due("text()", x.text(), NONE);
                due("its place", x.fault(1), 3 - shift / 8);
            }
        }
    }

    private static void end() {
        changesNothing("Promise 14: true; false, changing nothing, if it has not so many, or n is below 0.", t -> {
            for (int n : new int[] {LOW, -1, 19, 20, 399, 400, 401, HIGH}) no("end(" + n + ")", t.end(n));
            yes("as many as it has", t.end(18));
        });
        sentence("Promise 14: The TAPE has its first n bytes alone");
        x.fed("by most;by sum;by turn when");
        yes("end(15)", x.end(15));
        no("end(16)", x.end(16));
        due("what comes then comes behind these", x.fed("by keep;").text(), 3);
        no("an empty tape", x.end(1));
        yes("an empty tape", x.end(0));
        due("nothing of the former one", x.fed("by keep;").text(), 1);
        yes("end(0)", x.fed("by keep;").end(0));
        due("nothing is left", x.text(), 0);
    }

    private static void text() {
        changesNothing("Promise 15: NONE: a FAULT (THE RULE stays as it was; the TAPE is empty, too).", t -> {
            yes("end(17)", t.end(17));
            due("text()", t.text(), NONE);
            due("fault(0)", t.fault(0), 1);
            due("fault(1)", t.fault(1), 17);
            no("the tape is empty", t.end(1));
            faultIn(t);
            t.fed("by window;by keep;");
        });
    }

    private static void fault() {
        changesNothing("Promise 16: NONE for another what.", t -> {
            for (int what : outside(0, 1)) due("fault(" + what + ")", t.fault(what), NONE);
            due("fault(0)", t.fault(0), 2);
            due("fault(1)", t.fault(1), 15);
        });
        sentence("Promise 16: Of the latest text()");
        due("before any", x.fault(0), 0);
        due("before any", x.fault(1), NONE);
        x.fed("by").text();
        due("fault(0)", x.fault(0), 1);
        due("fault(1)", x.fault(1), 2);
        faultIn(x);
        due("fault(0)", x.fault(0), 2);
        due("fault(1)", x.fault(1), 15);
        x.fed("$").text();
        due("fault(1) at 0", x.fault(1), 0);
        due("a good one", x.text(), 0);
        due("fault(0)", x.fault(0), 0);
        due("fault(1)", x.fault(1), NONE);
    }

    private static void sees() {
        changesNothing("Promise 17: NONE if one can't be.", t -> {
            for (int p : outside(0, PEOPLE - 1)) due("sees(" + p + ", 0)", t.sees(p, 0), NONE);
            for (int w : outside(0, WALLS - 1)) due("sees(0, " + w + ")", t.sees(0, w), NONE);
            due("sees(0, 0)", t.sees(0, 0), 6);
            due("sees(2, 3)", t.sees(2, 3), 0);
        });
    }

    private static void worth() {
        changesNothing("Promise 18: NONE - 99999 if there is none such.", t -> {
            for (int p : outside(0, PEOPLE - 1)) due("worth(" + p + ")", t.worth(p), NO_SUM);
        });
        sentence("Promise 18: NONE - 99999 if there is none such (nobody)");
        due("worth(0)", x.worth(0), -100000);
    }

    private static void colour() {
        changesNothing("Promise 19: NONE if one can't be, or another what.", t -> {
            for (int what = 0; what < 3; what++) {
                for (int w : outside(0, WALLS - 1)) due("colour(" + w + ", " + what + ")", t.colour(w, what), NONE);
            }
            for (int what : outside(0, 2)) due("colour(0, " + what + ")", t.colour(0, what), NONE);
        });
    }

    private static void become() {
        changesNothing("Promise 20: NONE for another what.", t -> {
            for (int what : new int[] {LOW, -1, 0, 3, HIGH}) due("become(" + what + ")", t.become(what), NONE);
        });
        sentence("Promise 20: how many WALLS changed (all, none)");
        x.walls(0, 0, 0, 0, 0, 0, 0).people(0).views(0, 1, 1, 1, 1, 1, 1, 1).tastes(0, 0, 2, 1).rule("by most;");
        due("become(1)", x.become(1), 7);
        due("become(1)", x.become(1), 0);
        x.says(0, 0, 0, 9);
        due("become(1)", x.become(1), 7);
        painting(2, 2, 2, 2, 2, 2, 2);
        due("become(2)", x.become(2), 7);
        due("become(2)", x.become(2), 0);
        yes("paint", x.paint(6, 0));
        due("become(2)", x.become(2), 1);
    }

    private static void gains() {
        changesNothing("Promise 21: NONE - 99999 if one can't be, or another what.", t -> {
            for (int what = 0; what < 2; what++) {
                for (int p : outside(0, PEOPLE - 1)) due("gains(" + p + ", " + what + ")", t.gains(p, what), NO_SUM);
            }
            for (int what : outside(0, 1)) due("gains(0, " + what + ")", t.gains(0, what), NO_SUM);
        });
    }

    private static void best() {
        changesNothing("Promise 22: NONE - 99999 for another what (no such one).", t -> {
            for (int what : new int[] {LOW, LOW + 9, LOW + 10, -1, 3, 9, 10 + PEOPLE, 17, HIGH}) due("best(" + what + ")", t.best(what), NO_SUM);
        });
    }

    private static void hope() {
        changesNothing("Promise 25: NONE - 9 if one can't be (m above how many there are), or another what.", t -> {
            for (int what = 0; what < 2; what++) {
                for (int w : outside(0, WALLS - 1)) due("wall " + w, t.hope(w, 0, 1, 5, what), NO_HOPE);
                for (int c : outside(0, COLOURS - 1)) due("colour " + c, t.hope(0, c, 1, 5, what), NO_HOPE);
                for (int m : outside(1, PEOPLE)) due("m " + m, t.hope(0, 0, m, 5, what), NO_HOPE);
                for (int fee : outside(0, 9999)) due("fee " + fee, t.hope(0, 0, 1, fee, what), NO_HOPE);
            }
            for (int what : outside(0, 1)) due("what " + what, t.hope(0, 0, 1, 5, what), NO_HOPE);
        });
        sentence("Promise 25: NONE - 9 if one can't be (nobody, no walls)");
        due("no walls", x.people(0).hope(0, 0, 1, 0, 0), -10);
        yes("colours", x.colours(3));
        due("nobody", x.walls(0).hope(0, 0, 1, 0, 0), -10);
        due("nobody", x.hope(0, 0, 0, 0, 0), -10);
    }

    private static void homes() {
        changesNothing("Promise 26: NONE - 99999 for another what (no such one).", t -> {
            for (int what : new int[] {LOW, LOW + 9, LOW + 10, -1, 1, 9, 10 + PEOPLE, 17, HIGH}) due("homes(" + what + ")", t.homes(what), NO_SUM);
        });
        sentence("Promise 26: the sum (0 without PEOPLE)");
        x.walls(0).views(3, 9);
        due("homes(0)", x.homes(0), 0);
        due("homes(10)", x.homes(10), NO_SUM);
    }

    private static void swap() {
        sentence("Promise 27: NONE without one.");
        due("nobody", x.swap(), NONE);
        x.walls(0).people(0).views(1, 9).tastes(0, 9);
        due("one", x.swap(), NONE);
        x.people(1);
        due("one alone would", x.swap(), NONE);
        x.tastes(1, -9);
        due("both would", x.swap(), 1);
    }

    private static void deed() {
        changesNothing("Promise 28: A DEED: true; false if one can't be (one COLOUR)", t -> {
            for (int p : outside(0, PEOPLE - 1)) no("deed(" + p + ", 0, 1)", t.deed(p, 0, 1));
            for (int c : outside(0, COLOURS - 1)) {
                no("deed(0, " + c + ", 1)", t.deed(0, c, 1));
                no("deed(0, 1, " + c + ")", t.deed(0, 1, c));
            }
            for (int c = -1; c <= COLOURS; c++) no("deed(1, " + c + ", " + c + ")", t.deed(1, c, c));
        });
        sentence("Promise 28: false if .. there are forty.");
        leaves(t -> {
            t.people(0, 1);
            for (int n = 0; n < 40; n++) t.did(n % 2, n % 2, 2);
        }, t -> {
            no("deed(0, 2, 1)", t.deed(0, 2, 1));
            no("deed(1, 1, 2)", t.deed(1, 1, 2));
            no("deed(2, 0, 1)", t.deed(2, 0, 1));
        });
    }

    private static void must() {
        changesNothing("Promise 29: NONE if one can't be.", t -> {
            for (int p : outside(0, PEOPLE - 1)) {
                due("must(" + p + ", 1, 0)", t.must(p, 1, 0), NONE);
                due("must(" + p + ", 1, 1)", t.must(p, 1, 1), NONE);
            }
            for (int c : outside(0, COLOURS - 1)) {
                due("must(0, " + c + ", 0)", t.must(0, c, 0), NONE);
                due("must(0, 1, " + c + ")", t.must(0, 1, c), NONE);
                due("must(0, " + c + ", " + c + ")", t.must(0, c, c), NONE);
            }
        });
    }

    private static void looks() {
        changesNothing("Promise 30: LOOKS of a PLACE: true; false if one can't be.", t -> {
            for (int place : outside(0, 8)) no("looks(" + place + ", 5)", t.looks(place, 5));
            for (int v : outside(0, 99)) no("looks(1, " + v + ")", t.looks(1, v));
        });
    }

    private static void link() {
        changesNothing("Promise 31: A LINK of two unlike PLACES, or none: true; false if one can't be.", t -> {
            for (int place : outside(0, 8)) {
                no("link(" + place + ", 1, true)", t.link(place, 1, true));
                no("link(1, " + place + ", true)", t.link(1, place, true));
                no("link(" + place + ", 0, false)", t.link(place, 0, false));
            }
            for (int place = -1; place <= 9; place++) {
                no("link(" + place + ", " + place + ", true)", t.link(place, place, true));
                no("link(" + place + ", " + place + ", false)", t.link(place, place, false));
            }
        });
        changesNothing("Promise 31: .. told once more", t -> {
            yes("link(0, 3, true)", t.link(0, 3, true));
            yes("link(8, 7, false)", t.link(8, 7, false));
        });
    }

    private static void way() {
        changesNothing("Promise 32: NONE if there is none, one can't be, or another what.", t -> {
            for (int what = 0; what < 2; what++) {
                for (int place : outside(0, 8)) {
                    due("way from " + place, t.way(place, 0, 9, what), NONE);
                    due("way to " + place, t.way(0, place, 9, what), NONE);
                }
                for (int n : outside(1, 9)) due("way by " + n, t.way(0, 0, n, what), NONE);
                due("none", t.way(0, 7, 9, what), NONE);
            }
            for (int what : new int[] {LOW, LOW + 9, LOW + 10, -1, 2, 9, 15, 19, HIGH}) due("what " + what, t.way(0, 8, 9, what), NONE);
            due("none", t.way(0, 7, 9, 10), NONE);
            due("its last place", t.way(0, 8, 9, 14), 8);
            due("beyond it", t.way(0, 8, 9, 15), NONE);
        });
    }

    private static void years() {
        changesNothing("Promise 33: NONE, and nothing is done, if one can't be", t -> {
            for (int n : new int[] {LOW, -60, -1, 0, 61, 997, HIGH}) due("years(" + n + ")", t.years(n), NONE);
        });
        sentence("Promise 33: NONE, and nothing is done, .. beyond 999.");
        leaves(t -> {
            fullTown(t);
            t.yearsGo(995);
        }, t -> {
            for (int n : new int[] {2, 3, 60}) due("years(" + n + ")", t.years(n), NONE);
            due("look(5)", t.look(5), 998);
        });
        leaves(t -> {
            fullTown(t);
            t.yearsGo(996);
        }, t -> {
            for (int n : new int[] {0, 1, 2, 60, 61}) due("years(" + n + ")", t.years(n), NONE);
            due("look(5)", t.look(5), 999);
        });
    }

    private static void image() {
        sentence("Promise 34: true; false if there is none.");
        leaves(t -> t.ofColours(4).walls(3, 2).people(4, 7), t -> {
            no("image(false)", t.image(false));
            no("image(false)", t.image(false));
        });
        yes("image(true)", x.image(true));
        yes("image(true)", x.image(true));
        yes("image(false)", x.image(false));
    }

    private static void look() {
        changesNothing("Promise 35: NONE for another what.", t -> {
            for (int what : new int[] {LOW, LOW + 9, LOW + 10, LOW + 20, -1, 8, 9, 10 + PEOPLE, 16, 17, 19, 20 + COLOURS, 30, HIGH}) {
                due("look(" + what + ")", t.look(what), NONE);
            }
            int[] looks = {4, 4, 3, 2, 2, 3, t.state(0), 4};
            t.state(looks[6]);
            for (int what = 0; what < looks.length; what++) due("look(" + what + ")", t.look(what), looks[what]);
            int[] houses = {0, 5, 7};
            for (int p = 0; p < houses.length; p++) due("look(" + (10 + p) + ")", t.look(10 + p), houses[p]);
            int[] prices = {6, 0, 12, 999};
            for (int c = 0; c < prices.length; c++) due("look(" + (20 + c) + ")", t.look(20 + c), prices[c]);
        });
    }

    private static void whatIsInThought() {
        changesNothing("what is asked changes nothing", t -> {
            for (int w = 0; w < WALLS; w++) {
                for (int what = 0; what < 3; what++) t.colour(w, what);
                t.hope(w, 3, 2, 1, 0);
            }
            for (int p = 0; p < PEOPLE; p++) {
                t.worth(p);
                t.gains(p, 0);
                t.best(10 + p);
                t.homes(10 + p);
                t.must(p, 1, 1);
            }
            t.best(2);
            t.stand();
            t.swap();
            t.way(8, 0, 9, 0);
            t.fault(0);
            t.look(6);
        });
    }

    public static void main(String[] args) {
        newObject();
        eachObjectByItself();
        state();
        colours();
        pot();
        wall();
        person();
        move();
        view();
        tree();
        tell();
        besideWithoutI();
        beside();
        paint();
        feed();
        feedBeyond();
        fedBytes();
        end();
        text();
        fault();
        sees();
        worth();
        colour();
        become();
        gains();
        best();
        hope();
        homes();
        swap();
        deed();
        must();
        looks();
        link();
        way();
        years();
        image();
        look();
        whatIsInThought();
        finish();
    }
}
