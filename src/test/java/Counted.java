import java.nio.charset.StandardCharsets;

/** An object that counts its calls, since 512 of them are all that is promised, and plain ways to build a town in it. */
final class Counted {
    static final int CALLS_MOST = 512;
    int calls = 0;
    private final PaintedByOthers x = new PaintedByOthers();

    private PaintedByOthers used() {
        calls++;
        built(calls <= CALLS_MOST, "one object is used more than 512 times");
        return x;
    }

    int state(int v) { return used().state(v); }
    boolean colours(int c) { return used().colours(c); }
    boolean pot(int colour, int price) { return used().pot(colour, price); }
    int wall(int colour) { return used().wall(colour); }
    int person(int house) { return used().person(house); }
    boolean move(int p, int house) { return used().move(p, house); }
    boolean view(int house, int wall, int yards) { return used().view(house, wall, yards); }
    int tree(int house, int wall, int growth) { return used().tree(house, wall, growth); }
    boolean tell(int p, int what, int i, int v) { return used().tell(p, what, i, v); }
    boolean beside(int u, int v, boolean is) { return used().beside(u, v, is); }
    boolean paint(int wall, int colour) { return used().paint(wall, colour); }
    int feed(int a, int b, int c, int d, int e) { return used().feed(a, b, c, d, e); }
    boolean end(int n) { return used().end(n); }
    int text() { return used().text(); }
    int fault(int what) { return used().fault(what); }
    int sees(int p, int wall) { return used().sees(p, wall); }
    int worth(int p) { return used().worth(p); }
    int colour(int wall, int what) { return used().colour(wall, what); }
    int become(int what) { return used().become(what); }
    int gains(int p, int what) { return used().gains(p, what); }
    int best(int what) { return used().best(what); }
    int trade() { return used().trade(); }
    int stand() { return used().stand(); }
    int hope(int wall, int colour, int m, int fee, int what) { return used().hope(wall, colour, m, fee, what); }
    int homes(int what) { return used().homes(what); }
    int swap() { return used().swap(); }
    boolean deed(int p, int took, int other) { return used().deed(p, took, other); }
    int must(int p, int a, int b) { return used().must(p, a, b); }
    boolean looks(int place, int v) { return used().looks(place, v); }
    boolean link(int a, int b, boolean is) { return used().link(a, b, is); }
    int way(int a, int b, int n, int what) { return used().way(a, b, n, what); }
    int years(int n) { return used().years(n); }
    boolean image(boolean taken) { return used().image(taken); }
    int look(int what) { return used().look(what); }

    private static void built(boolean done, String what) {
        if (!done) throw new IllegalStateException(what);
    }

    Counted ofColours(int c) {
        built(colours(c), "colours " + c);
        return this;
    }

    Counted pots(int... prices) {
        for (int c = 0; c < prices.length; c++) built(pot(c, prices[c]), "pot " + c);
        return this;
    }

    Counted walls(int... colours) {
        for (int c : colours) built(wall(c) >= 0, "a wall in " + c);
        return this;
    }

    /** So many walls in colour 0. */
    Counted plainWalls(int n) {
        return walls(new int[n]);
    }

    Counted people(int... houses) {
        for (int h : houses) built(person(h) >= 0, "one in house " + h);
        return this;
    }

    /** So many people, each in the house of his number. */
    Counted peopleInRow(int n) {
        for (int p = 0; p < n; p++) people(p);
        return this;
    }

    Counted views(int house, int... yards) {
        for (int w = 0; w < yards.length; w++) built(view(house, w, yards[w]), "a view from " + house);
        return this;
    }

    Counted tastes(int p, int... tastes) {
        for (int c = 0; c < tastes.length; c++) built(tell(p, 0, c, tastes[c]), "a taste of " + p);
        return this;
    }

    Counted says(int p, int... said) {
        for (int c = 0; c < said.length; c++) built(tell(p, 1, c, said[c]), "a saying of " + p);
        return this;
    }

    Counted likesBeside(int p, int v) {
        built(tell(p, 2, 0, v), "beside of " + p);
        return this;
    }

    Counted neighbours(int u, int v) {
        built(beside(u, v, true), "neighbours " + u + " " + v);
        return this;
    }

    Counted planted(int house, int wall, int growth) {
        built(tree(house, wall, growth) >= 0, "a tree at " + house);
        return this;
    }

    Counted did(int p, int took, int other) {
        built(deed(p, took, other), "a deed of " + p);
        return this;
    }

    Counted placeLooks(int... looks) {
        for (int i = 0; i < looks.length; i++) built(looks(i, looks[i]), "looks of " + i);
        return this;
    }

    /** Links from each of these places to the next one of them. */
    Counted linked(int... places) {
        for (int i = 1; i < places.length; i++) built(link(places[i - 1], places[i], true), "a link of " + places[i]);
        return this;
    }

    Counted yearsGo(int n) {
        for (int left = n; left > 0; left -= 60) built(years(Math.min(left, 60)) > 0, "years go by");
        return this;
    }

    Counted imageTaken() {
        built(image(true), "an image");
        return this;
    }

    /** The text comes behind the tape, as bytes of its letters' numbers. */
    Counted fed(String text) {
        byte[] bytes = text.getBytes(StandardCharsets.ISO_8859_1);
        for (int from = 0; from < bytes.length; from += 20) {
            int[] n = new int[5];
            for (int i = 0; i < 20; i++) n[i / 4] = n[i / 4] << 8 | (from + i < bytes.length ? bytes[from + i] & 255 : ' ');
            int length = feed(n[0], n[1], n[2], n[3], n[4]);
            built(length > 0, "the tape is full");
            if (from + 20 > bytes.length) built(end(length - (from + 20 - bytes.length)), "the tape's end");
        }
        return this;
    }

    Counted rule(String text) {
        fed(text);
        built(text() >= 0, "no rule: " + text);
        return this;
    }
}
