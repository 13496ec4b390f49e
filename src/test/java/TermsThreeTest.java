/** The boundary cases of 'Terms', 3: pots and dues, trades, hope, homes, deeds, ways, years and the image. */
public final class TermsThreeTest extends Trial {
    private static int nextState(int state) {
        return 1664525 * state + 1013904223;
    }

    private static void potsOfAPainting() {
        sentence("POTS of a PAINTING: the prices of all COLOURS in it.");
        x.ofColours(2).pots(999, 999);
        due("without walls", x.best(1), 0);
        x.walls(0);
        due("of one wall", x.best(1), 999);
        x.walls(1);
        due("of two walls in one colour, once", x.best(1), 999);
        due("best(0)", x.best(0), -999);
        x.people(0, 1).views(0, 99, 0).views(1, 0, 99).tastes(0, 9, -9).tastes(1, -9, 9);
        best(0, 1);
        due("of two colours", x.best(1), 1998);
        due("best(0)", x.best(0), 2 * 891 - 1998);
        x.pots(999, 0);
        due("of one that costs nothing", x.best(1), 999);
    }

    private static void fourPots() {
        sentence("POTS of a PAINTING: the prices of all COLOURS in it (all four)");
        x.ofColours(4).plainWalls(4).peopleInRow(4).pots(9, 20, 300, 800);
        for (int p = 0; p < 4; p++) {
            x.tastes(p, -9, -9, -9, -9);
            yes("taste", x.tell(p, 0, p, 9));
            yes("view", x.view(p, p, 99));
        }
        best(0, 1, 2, 3);
        due("best(1)", x.best(1), 1129);
        due("best(0)", x.best(0), 4 * 891 - 1129);
    }

    private static void potOrNot() {
        sentence("WORTHS to all less POTS is greatest: a POT as dear as it is worth");
        x.walls(2).people(0).views(0, 10).tastes(0, 0, 1, 0).pots(5, 14, 20);
        best(1);
        x.pots(5, 15, 20);
        best(0);
        x.pots(5, 16, 20);
        best(0);
        due("best(0)", x.best(0), -5);
        x.pots(6, 16, 20).tastes(0, 1, 2, 2);
        best(0);
        x.pots(6, 15, 20);
        best(1);
    }

    private static void bestOfNothing() {
        sentence("BEST of all PAINTINGS, without WALLS or without PEOPLE");
        due("best(0)", x.best(0), 0);
        due("best(1)", x.best(1), 0);
        due("best(2)", x.best(2), 0);
        x.pots(7, 6, 8).people(3).tastes(0, 9, 9, 9);
        due("without walls", x.best(0), 0);
        due("without walls", x.best(10), 0);
        due("become(2)", x.become(2), 0);
        yes("colours", x.colours(3));
        x.pots(7, 6, 8).walls(0, 2);
        due("without people", x.best(0), -6);
        due("without people", x.best(1), 6);
        due("without people", x.best(2), 6);
        best(1, 1);
        x.pots(0);
        best(0, 0);
    }

    private static void firstBest() {
        sentence("of several the first (WALL 0 first, the lesser COLOUR)");
        x.ofColours(4).walls(3, 3, 3).people(0);
        best(0, 0, 0);
        x.views(0, 1, 1, 1).tastes(0, 0, 1, 1, 1);
        best(1, 1, 1);
        x.neighbours(0, 1).neighbours(1, 2).likesBeside(0, -1);
        best(1, 2, 1);
        x.neighbours(0, 2);
        best(1, 2, 3);
        x.tastes(0, 1, 1, 0, 0);
        best(0, 0, 1);
        x.pots(1, 1, 0, 0);
        best(0, 0, 1);
        x.pots(2, 2, 0, 0);
        best(0, 0, 2);
        x.likesBeside(0, 1).tastes(0, 0, 0, 0, 0).pots(1, 1, 1, 1);
        best(0, 0, 0);
    }

    private static void duesOfOne() {
        sentence("DUE of one: the greatest of WORTHS to all others less POTS of any PAINTING, less .. of BEST");
        x.walls(0).people(0).pots(5, 3, 4);
        best(1);
        due("the only one, who sees none", x.best(10), 0);
        x.views(0, 1).tastes(0, 9, 0, 0);
        best(0);
        due("the only one", x.best(10), 2);
        due("lack", x.best(2), 3);
        x.people(1).views(1, 1).tastes(1, 0, 9, 0);
        best(1);
        due("who does not change it", x.best(10), 0);
        // without the second one: 9 - 5 in colour 0, and -3 in the best one
        due("who changes it", x.best(11), 7);
        due("lack", x.best(2), -4);
        due("no such one", x.best(12), NO_SUM);
    }

    private static void lacks() {
        sentence("LACK: POTS of BEST less all DUES.");
        x.walls(0).people(0, 1);
        due("nothing", x.best(2), 0);
        x.pots(5, 5, 5);
        due("none is due anything", x.best(2), 5);
        x.views(0, 1).views(1, 1).pots(0, 4, 9).tastes(0, 0, 4).tastes(1, 0, 4);
        // 8 - 4 in colour 1; without one 0 in both, by the other one 4 - 4 in the best one
        best(1);
        due("due of 0", x.best(10), 0);
        due("lack", x.best(2), 4);
        x.tastes(1, 0, 2);
        // 6 - 4; without the first 0 and 2 - 4, without the second 0 and 4 - 4
        due("due of 0", x.best(10), 2);
        due("due of 1", x.best(11), 0);
        due("lack", x.best(2), 2);
        x.pots(0, 0, 0).tastes(1, 3, 0);
        due("due of 0", x.best(10), 3);
        due("below 0", x.best(2), -3);
    }

    private static void sevenDues() {
        sentence("DUE of one (seven of PEOPLE)");
        x.walls(0).peopleInRow(7).pots(0, 6, 0);
        for (int p = 0; p < 7; p++) x.views(p, 1).tastes(p, 0, 1);
        best(1);
        due("best(0)", x.best(0), 1);
        for (int p = 0; p < 7; p++) due("due", x.best(10 + p), 0);
        due("lack", x.best(2), 6);
        due("no such one", x.best(17), NO_SUM);
    }

    private static void tradersGainBoth() {
        sentence("so that WORTH is greater to both p and q");
        x.walls(0, 0).people(0, 1).views(0, 1, 0).views(1, 0, 1).tastes(0, 0, 1).tastes(1, 0, 0);
        due("one has as much as before", x.trade(), 0);
        painting(0, 0);
        x.tastes(1, 0, -1);
        due("one has less", x.trade(), 0);
        x.tastes(0, 0, 0).tastes(1, 0, 1);
        due("the other one has as much as before", x.trade(), 0);
        x.tastes(0, 0, 1);
        due("both have one more", x.trade(), 1);
        painting(1, 1);
        due("nothing is left", x.trade(), 0);
        painting(1, 1);
    }

    private static void tradesNeedTwo() {
        sentence("TRADES: for two of PEOPLE p below q and two unlike WALLS u, v");
        due("nobody, no walls", x.trade(), 0);
        due("nobody, no walls", x.stand(), 0);
        x.walls(0, 0);
        due("nobody", x.trade(), 0);
        x.people(0).views(0, 1, 1).tastes(0, 0, 1);
        due("one", x.trade(), 0);
        due("one", x.stand(), 0);
        yes("colours", x.colours(3));
        x.walls(0).people(0, 1).views(0, 1).views(1, 1).tastes(0, 0, 1).tastes(1, 0, 1);
        due("one wall", x.trade(), 0);
        due("one wall", x.stand(), 0);
        x.walls(0);
        due("two walls", x.stand(), 1);
        due("two walls", x.trade(), 1);
        painting(1, 0);
    }

    private static void oneWallAnew() {
        sentence("COLOURS c, d by which u and v are painted anew (one of them at least otherwise than now)");
        x.walls(1, 1).people(0, 1).views(0, 1, 1).views(1, 1, 1).tastes(0, 0, 9, 0).tastes(1, 0, 9, 0);
        due("none otherwise than now", x.trade(), 0);
        yes("paint", x.paint(1, 0));
        due("the second one alone", x.trade(), 1);
        painting(1, 1);
        yes("paint", x.paint(0, 2));
        due("the first one alone", x.trade(), 1);
        painting(1, 1);
        x.tastes(0, 5, 0, 6).tastes(1, 6, 0, 5);
        due("both", x.trade(), 1);
        painting(0, 0);
        x.walls(1).views(0, 0, 1, 1).views(1, 0, 1, 1).tastes(0, 9, 0, 0).tastes(1, 0, 9, 0).neighbours(1, 2).likesBeside(0, 1).likesBeside(1, 1);
        due("each likes one of two neighbours, and both like them alike", x.trade(), 0);
        painting(0, 0, 1);
    }

    private static void tradesOfNeighbours() {
        sentence("so that WORTH is greater to both p and q (by BESIDE of NEIGHBOURS)");
        x.walls(0, 0).people(0, 1).views(0, 1, 1).views(1, 1, 1).neighbours(0, 1).likesBeside(0, -1).likesBeside(1, 0);
        due("one has as much as before", x.trade(), 0);
        x.likesBeside(1, -1);
        due("not alike any more", x.trade(), 1);
        painting(0, 1);
        due("nothing is left", x.trade(), 0);
        x.likesBeside(0, 1).likesBeside(1, 1);
        due("alike again", x.trade(), 1);
        painting(0, 0);
        x.likesBeside(0, 5).likesBeside(1, 5).tastes(0, 0, 1).tastes(1, 0, 1);
        due("both anew, and alike as before", x.trade(), 1);
        painting(1, 1);
        x.tastes(0, 0, 0, 5).tastes(1, 0, 0, 5).likesBeside(0, 5).likesBeside(1, 5).says(0, 0);
        due("both anew, as one of them alone is worth no more", x.trade(), 1);
        painting(2, 2);
    }

    private static void tradesBesideAThird() {
        sentence("so that WORTH is greater to both p and q (beside a WALL that stays)");
        x.walls(0, 0, 1).people(0, 1).views(0, 1, 1, 1).views(1, 1, 1, 1).neighbours(0, 2).neighbours(1, 2).likesBeside(0, 1).likesBeside(1, 1);
        due("stand()", x.stand(), 2);
        due("the second one like the third", x.trade(), 1);
        painting(0, 1, 1);
        due("the first one like the third", x.trade(), 1);
        painting(1, 1, 1);
        due("nothing is left", x.trade(), 0);
        x.likesBeside(0, -1);
        due("one would have more, one less", x.trade(), 0);
        x.likesBeside(1, -1);
        due("the second one unlike the third, and both unlike it", x.trade(), 1);
        painting(0, 0, 1);
    }

    private static void coloursExchanged() {
        sentence("COLOURS c, d by which u and v are painted anew (each in the other's one)");
        x.walls(0, 1).people(0, 1).views(0, 10, 1).views(1, 1, 10).neighbours(0, 1).likesBeside(0, -9).likesBeside(1, -9);
        x.tastes(0, 0, 3).tastes(1, 3, 0);
        due("trade()", x.trade(), 1);
        painting(1, 0);
        due("nothing is left", x.trade(), 0);
        x.likesBeside(0, 9).likesBeside(1, 9).tastes(0, 0, 0).tastes(1, 0, 0);
        due("the first alike", x.trade(), 1);
        painting(0, 0);
    }

    private static void firstTrade() {
        sentence("the first such (by u, v, c, d) is done, if there is one");
        x.ofColours(4).plainWalls(4).people(0, 1).tastes(0, 0, 1, 1, 2).tastes(1, 0, 1, 1, 2);
        for (int h = 0; h < 2; h++) x.views(h, 1, 1, 1, 1);
        // walls 0 and 1 as long as they can be better, and each time the least first colour, then the least second one
        int[][] rounds = {{0, 1, 0, 0}, {0, 3, 0, 0}, {1, 3, 0, 0}, {3, 3, 0, 0}, {1, 3, 3, 0}, {3, 3, 3, 0}, {1, 3, 3, 3}, {3, 3, 3, 3}};
        for (int[] round : rounds) {
            due("trade()", x.trade(), 1);
            painting(round);
        }
        due("trade()", x.trade(), 0);
    }

    private static void couplesInOrder() {
        sentence("A ROUND: for all couples p, q (by p, then q)");
        x.walls(0, 0).people(0, 1, 2).views(0, 1, 0).views(1, 1, 0).views(2, 1, 0);
        x.tastes(0, 3, 2, 1).tastes(1, 1, 3, 2).tastes(2, 2, 1, 3);
        // 0 and 1 would leave 2 for 1, 0 and 2 leave 1 for 0, 1 and 2 leave 0 for 2
        due("1 and 2 alone", x.trade(), 1);
        painting(2, 0);
        due("each couple, one behind another", x.trade(), 3);
        painting(2, 0);
        yes("paint", x.paint(0, 1));
        due("0 and 2, then 1 and 2", x.trade(), 2);
        painting(2, 0);
    }

    private static void sevenTrade() {
        sentence("A ROUND: for all couples p, q (21 of them)");
        x.ofColours(4).plainWalls(7).peopleInRow(7);
        for (int p = 0; p < 7; p++) x.views(p, 1, 1, 1, 1, 1, 1, 1).tastes(p, 0, 1, 2, 3);
        // each trade adds 1 to the painting's sum: with walls 0 and 1 first, and of the colours the least
        due("trade()", x.trade(), 21);
        due("worth", x.worth(6), 21);
        for (int w = 0; w < 7; w++) due("wall " + w, x.colour(w, 0), 3);
        due("nothing is left", x.trade(), 0);
        due("nothing is left", x.stand(), 0);
    }

    private static void othersAreNotAsked() {
        sentence("Others are not asked.");
        x.walls(0, 0).people(0, 1, 2).views(0, 1, 1).views(1, 1, 1).views(2, 9, 9).tastes(0, 0, 1).tastes(1, 0, 1).tastes(2, 0, -9);
        due("stand()", x.stand(), 2);
        due("trade()", x.trade(), 1);
        due("the third one has less", x.worth(2), -81);
        due("trade()", x.trade(), 1);
        due("worth", x.worth(2), -162);
    }

    /** Two who like the same, so that each round has one trade at most, always upwards. */
    private static void standsAfter(int trades, int answer, int[] yards, int[] likings) {
        sentence("STAND, in thought: ROUNDS till one in which nothing is done (30 at most), " + trades + " with a trade");
        x.ofColours(4).plainWalls(7).people(0, 1);
        for (int p = 0; p < 2; p++) x.views(p, yards).tastes(p, likings);
        due("stand()", x.stand(), answer);
        for (int n = 1; n <= trades; n++) {
            due("trade()", x.trade(), 1);
            if (trades - n < 30) due("stand() then", x.stand(), trades - n);
        }
        due("trade()", x.trade(), 0);
        due("stand()", x.stand(), 0);
    }

    private static void neverStands() {
        sentence("STAND: .. NONE if it comes to none");
        x.walls(0, 0).people(0, 1, 2).views(0, 1, 0).views(1, 1, 0).views(2, 1, 0);
        x.tastes(0, 3, 2, 1).tastes(1, 1, 3, 2).tastes(2, 2, 1, 3);
        due("stand()", x.stand(), NONE);
        painting(0, 0);
        due("once more", x.stand(), NONE);
        x.tastes(0, 2, 2, 1);
        due("when 0 would not leave 1 for 0", x.stand(), 2);
    }

    private static void howManyMind() {
        sentence("if at least m of PEOPLE (1 ..) pay a FEE (0 .. 9999) each");
        x.walls(0).peopleInRow(7).tastes(0, 0, 1);
        for (int h = 0; h < 7; h++) x.views(h, 9);
        for (int p = 0; p < 7; p++) x.tastes(p, 0, 1);
        due("m 0", x.hope(0, 1, 0, 1, 0), NO_HOPE);
        due("m 1", x.hope(0, 1, 1, 1, 0), 7);
        due("m 1", x.hope(0, 1, 1, 1, 1), 1);
        due("m 2", x.hope(0, 1, 2, 1, 0), 22);
        due("m 7", x.hope(0, 1, 7, 1, 0), 2);
        due("m 7", x.hope(0, 1, 7, 1, 1), 0);
        due("m 8", x.hope(0, 1, 8, 1, 0), NO_HOPE);
        due("fee 0", x.hope(0, 1, 1, 0, 0), 127);
        due("fee 0", x.hope(0, 1, 7, 0, 0), 128 - 7);
        due("fee -1", x.hope(0, 1, 1, -1, 0), NO_HOPE);
        due("fee 9999", x.hope(0, 1, 7, 9999, 0), 1);
        due("fee 9999", x.hope(0, 1, 7, 9999, 1), 0);
        due("fee 10000", x.hope(0, 1, 7, 10000, 0), NO_HOPE);
    }

    private static void asDearAsItIsWorth() {
        sentence("BY HOPE: sets of payers by which nobody would rather do otherwise alone");
        x.walls(0).people(0).views(0, 10).tastes(0, 0, 1);
        int[][] answers = {{9, 1, 1}, {10, 2, 0}, {11, 1, 0}, {0, 1, 1}};
        for (int[] a : answers) {
            due("how many by fee " + a[0], x.hope(0, 1, 1, a[0], 0), a[1]);
            due("the least by fee " + a[0], x.hope(0, 1, 1, a[0], 1), a[2]);
        }
        due("a colour as it is, without a fee", x.hope(0, 0, 1, 0, 0), 2);
        due("a colour as it is, for a fee", x.hope(0, 0, 1, 1, 0), 1);
        x.tastes(0, 0, -1);
        due("who minds it otherwise", x.hope(0, 1, 1, 0, 0), 1);
        due("who minds it otherwise", x.hope(0, 1, 1, 0, 1), 0);
    }

    private static void lostFee() {
        sentence("WORTH of what comes of it to him less the FEE that he pays; those who pay lose it also if it is not painted");
        x.walls(0).people(0, 1).views(0, 5).views(1, 5).tastes(0, 0, 1).tastes(1, 0, 0);
        due("nobody alone", x.hope(0, 1, 2, 1, 0), 1);
        due("nobody", x.hope(0, 1, 2, 1, 1), 0);
        due("without a fee nothing is lost", x.hope(0, 1, 2, 0, 0), 3);
        x.tastes(1, 0, 1);
        due("both or nobody", x.hope(0, 1, 2, 4, 0), 2);
        due("both, nobody or as dear", x.hope(0, 1, 2, 5, 0), 2);
        due("too dear", x.hope(0, 1, 2, 6, 0), 1);
    }

    private static void hopeBesideNeighbours() {
        sentence("WORTH of what comes of it to him (BESIDE of NEIGHBOURS that stay as they are)");
        x.walls(0, 1, 1).people(0).views(0, 5, 7, 3).neighbours(0, 1).neighbours(0, 2).likesBeside(0, 2);
        due("less than 16", x.hope(0, 1, 1, 15, 1), 1);
        due("as dear as 16", x.hope(0, 1, 1, 16, 0), 2);
        due("more than 16", x.hope(0, 1, 1, 17, 0), 1);
        due("more than 16", x.hope(0, 1, 1, 17, 1), 0);
        due("alike no more", x.hope(1, 0, 1, 9, 1), 1);
        due("alike no more", x.hope(1, 0, 1, 10, 0), 2);
        due("the wall was not painted", x.colour(0, 0), 0);
    }

    private static void leastAsANumber() {
        sentence("how many; the least as a number");
        x.walls(0).peopleInRow(7);
        for (int h = 0; h < 7; h++) x.views(h, 2 + 2 * h).tastes(h, 0, 1);
        due("the last one alone", x.hope(0, 1, 1, 13, 1), 64);
        due("the last one alone", x.hope(0, 1, 1, 13, 0), 1);
        due("one of the last two", x.hope(0, 1, 1, 11, 1), 32);
        due("one of the last two", x.hope(0, 1, 1, 11, 0), 2);
        due("one of the last two, as dear to the first of them", x.hope(0, 1, 1, 12, 1), 32);
        due("too dear for all", x.hope(0, 1, 1, 15, 1), 0);
        for (int h = 0; h < 7; h++) x.tastes(h, 1, 0);
        due("whoever pays", x.hope(0, 1, 1, 0, 1), 0);
    }

    private static void homesForAll() {
        sentence("HOMES: of all ways to give PEOPLE HOUSES (each another one of the 8) that with the greatest sum");
        due("without people", x.homes(0), 0);
        x.plainWalls(1).people(7).tastes(0, 1);
        for (int h = 0; h < 8; h++) x.views(h, h == 3 ? 9 : h);
        due("the best one", x.homes(10), 3);
        due("sum", x.homes(0), 9);
        x.people(6, 5, 4, 3, 2, 1);
        for (int p = 1; p < 7; p++) x.tastes(p, 1);
        // all but house 0
        due("sum", x.homes(0), 9 + 1 + 2 + 4 + 5 + 6 + 7);
        for (int p = 0; p < 7; p++) due("house of " + p, x.homes(10 + p), p + 1);
        for (int p = 0; p < 7; p++) x.tastes(p, -1);
        // all but house 3
        due("sum below 0", x.homes(0), -(1 + 2 + 4 + 5 + 6 + 7));
        int[] least = {0, 1, 2, 4, 5, 6, 7};
        for (int p = 0; p < 7; p++) due("house of " + p, x.homes(10 + p), least[p]);
        due("nobody moved", x.look(10), 7);
    }

    private static void housesAtTheEnds() {
        sentence("HOMES: each another one of the 8 (HOUSES 0 and 7, too)");
        x.plainWalls(1).people(3, 4).views(0, 9).views(7, 8).tastes(0, 1);
        due("house of 0", x.homes(10), 0);
        due("house of 1", x.homes(11), 1);
        due("sum", x.homes(0), 9);
        x.tastes(1, 2);
        due("house of 0", x.homes(10), 7);
        due("house of 1", x.homes(11), 0);
        due("sum", x.homes(0), 26);
    }

    private static void firstHomes() {
        sentence("of several the first (of 0 the lesser HOUSE first)");
        x.plainWalls(1).people(7, 6, 5);
        for (int p = 0; p < 3; p++) due("house of " + p, x.homes(10 + p), p);
        x.views(2, 4).views(5, 4).tastes(0, 1).tastes(1, 1).tastes(2, 1);
        due("sum", x.homes(0), 8);
        // the first whose two are best: one of them has nothing, so that 0 has house 0
        due("house of 0", x.homes(10), 0);
        due("house of 1", x.homes(11), 2);
        due("house of 2", x.homes(12), 5);
        x.tastes(0, 2);
        due("house of 0", x.homes(10), 2);
        due("house of 1", x.homes(11), 0);
        due("house of 2", x.homes(12), 5);
    }

    private static void bothWouldSwap() {
        sentence("SWAP: the first couple p below q that would both have a greater WORTH in one another's HOUSES.");
        x.walls(0, 1).people(0, 1).views(0, 5, 5).views(1, 6, 5).tastes(0, 1, 0).tastes(1, 0, 1);
        due("one as much as before", x.swap(), NONE);
        x.views(0, 5, 6);
        due("one more each", x.swap(), 1);
        x.views(0, 6, 6);
        due("the other one as much as before", x.swap(), NONE);
        x.views(0, 7, 6);
        due("the other one less", x.swap(), NONE);
        due("homes are as they were", x.look(10), 0);
    }

    private static void couplesThatSwap() {
        sentence("SWAP: the first couple p below q");
        int[][] couples = {{5, 6}, {0, 6}, {0, 1}, {3, 4}};
        for (int[] couple : couples) {
            x = new Counted().walls(0, 1).peopleInRow(7);
            for (int h = 0; h < 7; h++) x.views(h, 5, 5);
            x.views(couple[0], 4, 6).views(couple[1], 6, 4).tastes(couple[0], 1, 0).tastes(couple[1], 0, 1);
            due("swap()", x.swap(), 10 * couple[0] + couple[1]);
        }
        x = new Counted().walls(0, 1).people(0, 1, 2, 3).views(0, 4, 6).views(1, 6, 4).views(2, 6, 4).views(3, 6, 4);
        x.tastes(0, 1, 0).tastes(1, 0, 1).tastes(2, 0, 1).tastes(3, 0, 1);
        due("of several the first", x.swap(), 1);
        x.tastes(1, 0, 0);
        due("then 0 and 2", x.swap(), 2);
        x.tastes(2, 0, 0);
        due("then 0 and 3", x.swap(), 3);
        x.tastes(3, 0, 0);
        due("then nobody", x.swap(), NONE);
    }

    private static void fortyDeeds() {
        sentence("DEEDS (40 at most): one took a COLOUR rather than another one.");
        x.ofColours(4).people(0, 1);
        for (int n = 0; n < 39; n++) {
            due("look(7)", x.look(7), n);
            yes("deed", x.deed(n < 20 ? 0 : 1, 0, 1));
        }
        due("not yet", x.must(1, 3, 2), 0);
        yes("the fortieth", x.deed(1, 3, 2));
        no("a forty-first", x.deed(0, 3, 2));
        no("nor the same once more", x.deed(0, 0, 1));
        due("look(7)", x.look(7), 40);
        due("by the fortieth", x.must(1, 3, 2), 1);
        due("not by a forty-first", x.must(0, 3, 2), 0);
    }

    private static void rowsOfDeeds() {
        sentence("A COLOUR must be above another one to him by a row of such");
        int[][] rows = {{0, 1, 2, 3}, {3, 2, 1, 0}, {2, 0, 3, 1}, {1, 3, 0, 2}};
        for (int[] row : rows) {
            x = new Counted().ofColours(4).people(0, 1);
            for (int n = 2; n >= 0; n--) yes("deed", x.deed(0, row[n], row[n + 1]));
            for (int a = 0; a < 4; a++) {
                for (int b = 0; b < 4; b++) {
                    due("must", x.must(0, row[a], row[b]), a < b ? 1 : 0);
                    due("of another one", x.must(1, row[a], row[b]), 0);
                }
            }
        }
    }

    private static void tornByARing() {
        sentence("TORN is he, if some COLOUR must be above itself.");
        for (int length = 2; length <= 4; length++) {
            x = new Counted().ofColours(4).people(0, 1);
            for (int n = 0; n < length; n++) {
                for (int c = 0; c < 4; c++) due("not torn yet", x.must(0, c, c), 0);
                yes("deed", x.deed(0, n, (n + 1) % length));
            }
            for (int c = 0; c < 4; c++) due("torn", x.must(0, c, c), 1);
            due("the other one is not", x.must(1, 0, 0), 0);
            due("above the one before", x.must(0, 1, 0), 1);
            due("of a colour beyond the ring", x.must(0, 0, 3), length == 4 ? 1 : 0);
        }
    }

    private static void placesAndLooks() {
        sentence("PLACES 0 .. 8 with LOOKS 0 .. 99 (0 at first)");
        for (int place = 0; place <= 8; place += 8) {
            due("way", x.way(place, place, 1, 0), 0);
            yes("looks", x.looks(place, 99));
            due("way", x.way(place, place, 1, 0), 99);
            no("looks", x.looks(place, 100));
            no("looks", x.looks(place, -1));
            due("way", x.way(place, place, 1, 0), 99);
            yes("looks", x.looks(place, 0));
            due("way", x.way(place, place, 1, 0), 0);
        }
        no("looks", x.looks(9, 5));
        no("looks", x.looks(-1, 5));
        due("way", x.way(9, 9, 1, 0), NONE);
    }

    private static void linksEitherWay() {
        sentence("LINKS (either way; none at first)");
        for (int a = 0; a < 9; a++) {
            for (int b = 0; b < 9; b++) due("way", x.way(a, b, 9, 1), a == b ? 1 : NONE);
        }
        yes("link", x.link(8, 0, true));
        due("way", x.way(0, 8, 2, 1), 2);
        due("way", x.way(8, 0, 2, 1), 2);
        yes("link", x.link(0, 8, true));
        yes("link", x.link(0, 8, false));
        due("way", x.way(0, 8, 9, 1), NONE);
        due("way", x.way(8, 0, 9, 1), NONE);
        yes("link", x.link(0, 8, false));
        no("a place to itself", x.link(4, 4, true));
    }

    private static void lengthOfAWay() {
        sentence("n (1 .. 9) PLACES at most");
        x.linked(0, 1, 2, 3, 4, 5, 6, 7, 8).placeLooks(1, 2, 3, 4, 5, 6, 7, 8, 9);
        for (int to = 0; to < 9; to++) {
            for (int n = 1; n <= 9; n++) {
                due("places to " + to + " by " + n, x.way(0, to, n, 1), n > to ? to + 1 : NONE);
            }
        }
        due("looks", x.way(0, 8, 9, 0), 45);
        due("n 0", x.way(0, 0, 0, 1), NONE);
        due("n 10", x.way(0, 0, 10, 1), NONE);
        due("n 0", x.way(0, 8, 0, 0), NONE);
        due("n 10", x.way(0, 8, 10, 0), NONE);
        due("the first place", x.way(0, 8, 9, 10), 0);
        due("the last place", x.way(0, 8, 9, 18), 8);
        due("beyond it", x.way(0, 8, 9, 19), NONE);
        due("ahead of it", x.way(0, 8, 9, 9), NONE);
        due("beyond a shorter one", x.way(0, 2, 9, 13), NONE);
        due("the last of a shorter one", x.way(0, 2, 9, 12), 2);
    }

    private static void noPlaceTwice() {
        sentence("over LINKS, no PLACE twice");
        x.linked(0, 1, 2, 0).placeLooks(5, 99, 5);
        due("a place to itself", x.way(0, 0, 9, 0), 5);
        due("a place to itself", x.way(0, 0, 9, 1), 1);
        due("round about", x.way(0, 2, 9, 0), 109);
        due("round about", x.way(0, 2, 9, 1), 3);
        due("straight", x.way(0, 2, 2, 0), 10);
        for (int a = 0; a < 9; a++) {
            yes("looks", x.looks(a, 99));
            for (int b = 0; b < a; b++) yes("link", x.link(a, b, true));
        }
        due("all nine", x.way(0, 8, 9, 0), 891);
        due("all nine", x.way(8, 0, 9, 1), 9);
        due("eight of them", x.way(0, 8, 8, 0), 792);
    }

    private static void firstWay() {
        sentence("of several the first (PLACE by PLACE, the lesser first; one that ends ahead of the other is first)");
        x.linked(0, 3, 8).linked(0, 2, 8).linked(0, 5, 8).placeLooks(0, 0, 4, 4, 0, 4);
        due("way", x.way(0, 8, 9, 11), 2);
        due("the other way", x.way(8, 0, 9, 11), 2);
        x.placeLooks(0, 0, 4, 5, 0, 5);
        due("more looks", x.way(0, 8, 9, 11), 3);
        x.placeLooks(0, 0, 0, 0, 0, 0).linked(0, 8);
        due("the lesser place, though it is longer", x.way(0, 8, 9, 11), 2);
        due("the lesser place, though it is longer", x.way(0, 8, 9, 1), 3);
        due("by two places", x.way(0, 8, 2, 11), 8);
        due("home to 0, which is less than all", x.way(8, 0, 9, 11), 0);
        due("home to 0", x.way(8, 0, 9, 1), 2);
        x.linked(2, 1, 8);
        due("a lesser one behind it", x.way(0, 8, 9, 12), 1);
        due("a lesser one behind it", x.way(0, 8, 9, 1), 4);
    }

    private static void lastYear() {
        sentence("YEAR is one more (999 at most)");
        due("years(0)", x.years(0), NONE);
        due("years(61)", x.years(61), NONE);
        due("years(60)", x.years(60), 60);
        x.yearsGo(878);
        due("look(5)", x.look(5), 938);
        due("years(60)", x.years(60), 998);
        due("years(2)", x.years(2), NONE);
        due("look(5)", x.look(5), 998);
        due("years(1)", x.years(1), 999);
        due("years(1)", x.years(1), NONE);
        due("years(60)", x.years(60), NONE);
        due("look(5)", x.look(5), 999);
    }

    private static void paintedByDay() {
        sentence("YEAR is one more, JUDGED is painted");
        x.walls(0, 0).people(0).views(0, 9, 9).tastes(0, 0, 1).says(0, 0, 0, 1).planted(0, 1, 9).rule("by most when year=1;");
        int s = nextState(nextState(0));
        int night = (s >>> 8) % 2;
        due("years", x.years(1), 1);
        // the tree hides wall 1 in year 1; by night wall 0 gets the colour that he likes if it is drawn
        painting(night == 0 ? 1 : 2, 0);
        yes("paint", x.paint(0, 0));
        due("years", x.years(1), 2);
        s = nextState(nextState(s));
        painting((s >>> 8) % 2 == 0 ? 1 : 0, 0);
    }

    private static void eachYearByItself() {
        sentence("A YEAR goes by (n of them are n times one)");
        Counted atOnce = new Counted();
        Counted oneByOne = new Counted();
        fullTown(atOnce);
        fullTown(oneByOne);
        due("years(60)", atOnce.years(60), 63);
        for (int n = 1; n <= 60; n++) due("years(1)", oneByOne.years(1), 3 + n);
        alike(atOnce, oneByOne);
    }

    private static void ifHeSees() {
        sentence("if that one SEES that WALL, it gets the COLOUR of his greatest TASTE (of several the least)");
        int[][] tastes = {{0, 0, 0}, {-9, -9, -9}, {-9, -8, -8}, {9, 9, 9}, {-1, 0, 1}, {1, 0, 1}};
        int[] colours = {0, 0, 1, 0, 2, 0};
        for (int i = 0; i < tastes.length; i++) {
            x = new Counted().ofColours(4).walls(3).people(0).views(0, 1).tastes(0, tastes[i]).tastes(0, tastes[i]).says(0, 1, 9, 8, 7);
            yes("taste", x.tell(0, 0, 3, -9));
            due("years", x.years(1), 1);
            painting(colours[i]);
            x = new Counted().ofColours(4).walls(3).people(0).views(0, 0).tastes(0, tastes[i]);
            due("years", x.years(1), 1);
            painting(3);
            x = new Counted().ofColours(4).walls(3).people(0).views(0, 1).tastes(0, tastes[i]).planted(0, 0, 1);
            due("years", x.years(1), 1);
            painting(3);
        }
    }

    private static void noDraws() {
        sentence("(no DRAWS without PEOPLE or WALLS)");
        x.state(5);
        due("years", x.years(1), 1);
        due("nobody, no walls", x.look(6), 5);
        x.people(0);
        due("years", x.years(1), 2);
        due("no walls", x.look(6), 5);
        x.walls(0);
        due("years", x.years(1), 3);
        due("one and a wall, whom he does not see", x.look(6), nextState(nextState(5)));
        yes("colours", x.colours(3));
        x.walls(0);
        due("years", x.years(1), 1);
        due("nobody", x.look(6), nextState(nextState(5)));
    }

    private static void neverTaken() {
        sentence("false if there is none (an IMAGE that was never taken)");
        no("image(false)", x.image(false));
        leaves(t -> t.plainWalls(2).people(3).views(3, 9, 9).tastes(0, 1, 2).fed("by most;"), t -> no("image(false)", t.image(false)));
        leaves(t -> t.ofColours(4).plainWalls(2), t -> no("image(false)", t.image(false)));
    }

    private static void goneBackMoreThanOnce() {
        sentence("gone back to it may be more than once");
        leaves(t -> {
            fullTown(t);
            t.image(false);
        }, t -> {
            for (int time = 0; time < 3; time++) {
                t.ofColours(2 + time).plainWalls(7).peopleInRow(7).planted(7, 6, 9).did(6, 0, 1).yearsGo(1);
                yes("image(false)", t.image(false));
            }
            yes("at once again", t.image(false));
        });
    }

    private static void asItWasWhenItWasTaken() {
        sentence("as it was when it was taken");
        leaves(t -> {
            fullTown(t);
            t.image(true);
        }, t -> {
            t.walls(0, 0, 0).people(1, 2, 3, 4).planted(1, 1, 1).did(0, 2, 0).placeLooks(1, 2, 3).linked(0, 8, 7, 6);
            t.pots(1, 2, 3, 4).tastes(0, 9, 9, 9, 9).says(1, 9, 9, 9, 9).likesBeside(1, 9).neighbours(0, 2).yearsGo(60).state(3);
            t.move(0, 7);
            t.view(7, 1, 50);
            t.image(false);
        });
    }

    private static void allButTapeAndFault() {
        sentence("THE IMAGE: all that is and was told but the TAPE and fault()");
        x.rule("by most;").fed("by ke");
        yes("taken", x.image(true));
        x.fed("ep;by turn;");
        yes("gone back to", x.image(false));
        due("the tape is as it is now", x.text(), 2);
        faultIn(x);
        yes("gone back to", x.image(false));
        due("fault(0)", x.fault(0), 2);
        due("fault(1)", x.fault(1), 15);
        due("the rule is that of the image", x.look(4), 1);
        yes("taken", x.image(true));
        due("a good text", x.text(), 0);
        yes("gone back to", x.image(false));
        due("fault(0)", x.fault(0), 0);
        due("fault(1)", x.fault(1), NONE);
        due("look(4)", x.look(4), 1);
    }

    private static void takenOfNothing() {
        sentence("THE IMAGE (of a new object)");
        leaves(t -> t.imageTaken(), t -> {
            fullTown(t);
            t.rule("").ofColours(3).state(0);
            t.imageTaken();
        });
    }

    public static void main(String[] args) {
        potsOfAPainting();
        fourPots();
        potOrNot();
        bestOfNothing();
        firstBest();
        duesOfOne();
        lacks();
        sevenDues();
        tradersGainBoth();
        tradesNeedTwo();
        oneWallAnew();
        tradesOfNeighbours();
        tradesBesideAThird();
        coloursExchanged();
        firstTrade();
        couplesInOrder();
        sevenTrade();
        othersAreNotAsked();
        standsAfter(29, 29, new int[] {10, 1, 6, 8, 1, 6, 11}, new int[] {-4, 2, 2, 7});
        standsAfter(30, NONE, new int[] {7, 4, 6, 6, 1, 4, 11}, new int[] {4, 4, 6, 7});
        neverStands();
        howManyMind();
        asDearAsItIsWorth();
        lostFee();
        hopeBesideNeighbours();
        leastAsANumber();
        homesForAll();
        housesAtTheEnds();
        firstHomes();
        bothWouldSwap();
        couplesThatSwap();
        fortyDeeds();
        rowsOfDeeds();
        tornByARing();
        placesAndLooks();
        linksEitherWay();
        lengthOfAWay();
        noPlaceTwice();
        firstWay();
        lastYear();
        paintedByDay();
        eachYearByItself();
        ifHeSees();
        noDraws();
        neverTaken();
        goneBackMoreThanOnce();
        asItWasWhenItWasTaken();
        allButTapeAndFault();
        takenOfNothing();
        finish();
    }
}
