/** The boundary cases of 'Terms', 2: texts of rules with their faults, and how walls are judged by them. */
public final class TermsTwoTest extends Trial {
    private static final String WHEN = "by most when ";
    private static final String EIGHT_LINES = "by keep;".repeat(8);
    private static final String SIXTEEN_LINES = EIGHT_LINES + EIGHT_LINES;
    // Each keyword at its place in a text that reads.
    private static final String[][] KEYWORD_PLACES = {{"", "by", " keep;"}, {"by keep ", "when", " 1=1;"},
        {"by keep when 1=1 ", "or", " 1=1;"}, {"by keep when 1=1 ", "and", " 1=1;"}, {"by keep when ", "not", " 1=1;"},
        {"by ", "most", ";"}, {"by ", "window", ";"}, {"by ", "yards", ";"}, {"by ", "sum", ";"}, {"by ", "turn", ";"},
        {"by ", "keep", ";"}, {WHEN, "wall", "=1;"}, {WHEN, "seers", "=1;"}, {WHEN, "all", "=1;"}, {WHEN, "great", "=1;"},
        {WHEN, "colour", "=1;"}, {WHEN, "year", "=1;"}};

    /** Whether what follows 'when' is so, for a wall that one sees. */
    private static void so(String b, boolean is) {
        x = new Counted().plainWalls(1).people(0).views(0, 1).tastes(0, 0, 1).rule(WHEN + b + ";");
        due("whether " + b, x.colour(0, 1), is ? 1 : 0);
    }

    /** By such a rule the walls of the present town are judged so. */
    private static void judgedBy(String rule, int... colours) {
        x.rule(rule);
        for (int w = 0; w < colours.length; w++) due("wall " + w + " " + rule, x.colour(w, 1), colours[w]);
    }

    private static void emptyAtFirst() {
        sentence("THE RULE is a TEXT (empty at first)");
        due("look(4)", x.look(4), 0);
        x.walls(0, 1, 2).people(0).views(0, 9, 9, 9).tastes(0, 1, 5, 9);
        judged(0, 1, 2);
        due("become(1)", x.become(1), 0);
        x.rule("by most;");
        judged(2, 2, 2);
        due("an empty one again", x.text(), 0);
        due("look(4)", x.look(4), 0);
        judged(0, 1, 2);
    }

    private static void linesOfText() {
        sentence("{by METHOD [when B] ;}");
        reads("", 0);
        reads("by most;", 1);
        reads("by most when 1=1;", 1);
        reads("by most;by most when 1=1;", 2);
        reads(EIGHT_LINES + "by keep;".repeat(7), 15);
        reads(SIXTEEN_LINES, 16);
        faulty(";", 1, 0);
        faulty("by;", 1, 2);
        faulty("by most", 1, 7);
        faulty("by most;;", 1, 8);
        faulty("by most;by", 1, 10);
        faulty("by most when;", 1, 12);
        faulty("by most when 1=1 when 1=1;", 1, 17);
        faulty("by most by most;", 1, 8);
        faulty("most;", 1, 0);
    }

    private static void methodNames() {
        sentence("METHOD = most | window | yards | sum | turn | keep");
        for (String method : new String[] {"most", "window", "yards", "sum", "turn", "keep"}) reads("by " + method + ";", 1);
        for (String other : new String[] {"by", "when", "or", "and", "not", "wall", "seers", "all", "great", "colour", "year", "1", "("}) {
            faulty("by " + other + ";", 1, 3);
        }
        faulty("by most keep;", 1, 8);
    }

    private static void ors() {
        sentence("B = A {or A}.");
        so("1=2 or 1=2", false);
        so("1=1 or 1=2", true);
        so("1=2 or 1=1", true);
        so("1=1 or 1=1", true);
        so("1=2 or 1=2 or 1=2 or 1=1", true);
        so("1=2 or 1=2 or 1=2 or 1=2", false);
        faulty(WHEN + "1=1 or;", 1, 19);
        faulty(WHEN + "or 1=1;", 1, 13);
        faulty(WHEN + "1=1 or or 1=1;", 1, 20);
    }

    private static void ands() {
        sentence("A = C {and C}.");
        so("1=2 and 1=2", false);
        so("1=1 and 1=2", false);
        so("1=2 and 1=1", false);
        so("1=1 and 1=1", true);
        so("1=1 and 1=1 and 1=1 and 1=2", false);
        so("1=2 and 1=2 or 1=1", true);
        so("1=1 or 1=2 and 1=2", true);
        so("1=1 and 1=2 or 1=2", false);
        so("(1=1 or 1=2) and 1=2", false);
        faulty(WHEN + "1=1 and;", 1, 20);
        faulty(WHEN + "1=1 and or 1=1;", 1, 21);
        faulty(WHEN + "1=1 1=1;", 1, 17);
    }

    private static void comparisons() {
        sentence("C = E (< | = | >) E");
        String[] signs = {"<", "=", ">"};
        for (int a = 0; a < 3; a++) {
            for (int sign = 0; sign < 3; sign++) so(a + signs[sign] + "1", a == sign);
        }
        so("9998<9999", true);
        so("9999<9999", false);
        so("9999>9998", true);
        so("0-1<0", true);
        faulty(WHEN + "1;", 1, 14);
        faulty(WHEN + "1=;", 1, 15);
        faulty(WHEN + "=1;", 1, 13);
        faulty(WHEN + "1=1=1;", 1, 16);
        faulty(WHEN + "1==1;", 1, 15);
        faulty(WHEN + "1<=1;", 1, 15);
        faulty(WHEN + "1<>1;", 1, 15);
    }

    private static void notAndBrackets() {
        sentence("C = .. not C | ( B )");
        so("not 1=1", false);
        so("not 1=2", true);
        so("not not 1=1", true);
        so("not not not 1=1", false);
        so("not 1=2 and 1=2", false);
        so("not(1=2 and 1=2)", true);
        so("not 1=1 or 1=1", true);
        so("not(1=1 or 1=1)", false);
        so("((1=1))", true);
        so("(1=2)", false);
        faulty(WHEN + "();", 1, 14);
        faulty(WHEN + "(1=1;", 1, 17);
        faulty(WHEN + "1=1);", 1, 16);
        faulty(WHEN + "not;", 1, 16);
        faulty(WHEN + "1=not 1;", 1, 15);
        faulty(WHEN + "(1)=1;", 1, 15);
        faulty(WHEN + "1=(1);", 1, 15);
        faulty(WHEN + "1=1 not 1=1;", 1, 17);
    }

    private static void sums() {
        sentence("E = T {(+ | -) T}.");
        so("1=1+0", true);
        so("10-3-2=5", true);
        so("10-3+2=9", true);
        so("1+2+3+4+5-5-4-3-2=1", true);
        so("10-2*3=4", true);
        so("10-8/2=6", true);
        so("2*3-10=0-4", true);
        so("1=2-1", true);
        faulty(WHEN + "-1=1;", 1, 13);
        faulty(WHEN + "+1=1;", 1, 13);
        faulty(WHEN + "1+=1;", 1, 15);
        faulty(WHEN + "1+-1=0;", 1, 15);
        faulty(WHEN + "1-(1)=0;", 1, 15);
    }

    private static void products() {
        sentence("T = U {* U | / NUMBER}.");
        so("2*3*4=24", true);
        so("7/2*2=6", true);
        so("2*7/2=7", true);
        so("100/7/2=7", true);
        so("9999*0=0", true);
        so("2*wall=0", true);
        faulty(WHEN + "*1=1;", 1, 13);
        faulty(WHEN + "/1=1;", 1, 13);
        faulty(WHEN + "1*=1;", 1, 15);
        faulty(WHEN + "1/;", 1, 15);
        faulty(WHEN + "1/year=1;", 1, 15);
        faulty(WHEN + "1/(1)=1;", 1, 15);
        faulty(WHEN + "1//1=1;", 1, 15);
        faulty(WHEN + "1*-1=1;", 1, 15);
    }

    private static void wallNumbers() {
        sentence("wall: its number");
        x.plainWalls(7).people(0).views(0, 1, 1, 1, 1, 1, 1, 1).tastes(0, 0, 1);
        judgedBy("by most when wall=0;", 1, 0, 0, 0, 0, 0, 0);
        judgedBy("by most when wall=6;", 0, 0, 0, 0, 0, 0, 1);
        judgedBy("by most when wall<0;", 0, 0, 0, 0, 0, 0, 0);
        judgedBy("by most when wall>6;", 0, 0, 0, 0, 0, 0, 0);
        judgedBy("by most when wall>5;", 0, 0, 0, 0, 0, 0, 1);
    }

    // One sees wall 0; all seven see wall 1, each one all of it; nobody sees wall 2.
    private static void howManySee() {
        sentence("seers: how many; all: their yards together; great: the most of one");
        x.plainWalls(3).peopleInRow(7).views(0, 1);
        for (int p = 0; p < 7; p++) x.tastes(p, 0, 1);
        for (int h = 0; h < 7; h++) x.views(h, h == 0 ? 1 : 0, 99);
        judgedBy("by most when seers=1;", 1, 0, 0);
        judgedBy("by most when seers=7;", 0, 1, 0);
        judgedBy("by most when seers<1;", 0, 0, 0);
        judgedBy("by most when seers>7;", 0, 0, 0);
        judgedBy("by most when all=1;", 1, 0, 0);
        judgedBy("by most when all=693;", 0, 1, 0);
        judgedBy("by most when all<1 or all>693;", 0, 0, 0);
        judgedBy("by most when great=1;", 1, 0, 0);
        judgedBy("by most when great=99;", 0, 1, 0);
        judgedBy("by most when great<1 or great>99;", 0, 0, 0);
    }

    private static void theMostOfOne() {
        sentence("great: the most of one");
        x.plainWalls(3).people(0, 1, 2).tastes(0, 0, 1).tastes(1, 0, 1).tastes(2, 0, 1);
        x.views(0, 9, 2, 2).views(1, 2, 9, 2).views(2, 2, 2, 9);
        judgedBy("by most when great=9 and all=13;", 1, 1, 1);
        x.planted(0, 0, 5).yearsGo(1);
        judgedBy("by keep when great=9;by most when great=4 and all=8;", 1, x.colour(1, 0), x.colour(2, 0));
    }

    private static void colourNumbers() {
        sentence("colour (of the WALL, as it was)");
        x.ofColours(4).walls(0, 1, 2, 3).people(0).views(0, 1, 1, 1, 1).tastes(0, 0, 0, 1);
        judgedBy("by most when colour=0;", 2, 1, 2, 3);
        judgedBy("by most when colour=3;", 0, 1, 2, 2);
        judgedBy("by most when colour<0 or colour>3;", 0, 1, 2, 3);
    }

    private static void yearNumbers() {
        sentence("year: YEAR");
        x.plainWalls(1).people(0).tastes(0, 1).views(0, 1);
        x.says(0, 0, 1);
        judgedBy("by most when year=0;", 1);
        judgedBy("by most when year<0 or year>0;", 0);
        x.yearsGo(999);
        judgedBy("by most when year=999;", 1);
        judgedBy("by most when year<999 or year>999;", 0);
    }

    private static void keywords() {
        sentence("letters (capitals, too) as many as stand together are KEYWORDS (those told here) or none");
        for (String[] at : KEYWORD_PLACES) {
            String key = at[1];
            int place = at[0].length();
            reads(at[0] + key + at[2], 1);
            String capital = Character.toUpperCase(key.charAt(0)) + key.substring(1);
            String shorter = key.substring(0, key.length() - 1);
            String[] none = {capital, key.toUpperCase(), shorter + Character.toUpperCase(key.charAt(key.length() - 1)), shorter, key + "x",
                key + "X", "x" + key, key + key, shorter + "{", shorter + "\u00e4", key.charAt(0) + " " + key.substring(1)};
            for (String word : none) faulty(at[0] + word + at[2], 1, place);
        }
    }

    private static void letters() {
        sentence("letters .. as many as stand together");
        for (char c : new char[] {'a', 'z', 'A', 'Z'}) {
            faulty("by" + c + " most;", 1, 0);
            faulty("by most when 1" + c + "=1;", 1, 14);
        }
        for (char c : new char[] {'`', '{', '@', '[', '_', '.', '0'}) faulty("by" + c + " most;", 1, 2);
        reads("by most when1=1and2=2or3=3;", 1);
        faulty("by most when1=1and2=2ornot 3=3;", 1, 21);
        faulty("bymost;", 1, 0);
        faulty("by mostwhen 1=1;", 1, 3);
        faulty("by most when notwall=1;", 1, 13);
    }

    private static void numbers() {
        sentence("digits as many as stand together NUMBERS of 1 to 4 digits or none");
        for (String number : new String[] {"0", "9", "10", "099", "9999", "0000", "0009"}) reads(WHEN + number + "=1;", 1);
        for (String none : new String[] {"00000", "00001", "10000", "12345", "99999", "4294967296", "00000000000000000001"}) {
            faulty(WHEN + none + "=1;", 1, 13);
            faulty(WHEN + "1=1+" + none + ";", 1, 17);
            faulty(WHEN + "1/" + none + "=1;", 1, 15);
        }
        so("0010=10", true);
        so("0000=0", true);
        so("9999=0-1+5000+5000", true);
        faulty(WHEN + "1 1=11;", 1, 15);
        faulty(WHEN + "1\n1=11;", 1, 15);
    }

    private static void everyByte() {
        sentence("; + - * / ( ) < = > . Blanks (32, 10) between");
        for (int b = 0; b < 256; b++) {
            String sign = String.valueOf((char) b);
            boolean letter = b >= 'a' && b <= 'z' || b >= 'A' && b <= 'Z';
            if (b == 32 || b == 10) {
                reads(sign, 0);
                reads("by" + sign + "most;", 1);
                reads(WHEN + "1" + sign + "=1;", 1);
                reads("by most" + sign + ";", 1);
            } else {
                faulty(sign, 1, 0);
                faulty("by" + sign + "most;", 1, letter ? 0 : 2);
                faulty("by most " + sign + " ;", 1, b == ';' ? 10 : 8);
            }
        }
    }

    private static void everyByteBehindANumber() {
        sentence("; + - * / ( ) < = > . Blanks (32, 10) between, and digits");
        for (int b = 0; b < 256; b++) {
            String sign = String.valueOf((char) b);
            boolean joins = "<=>+-*/".contains(sign);
            if (b == 32 || b == 10 || b >= '0' && b <= '9') {
                reads(WHEN + "1" + sign + "=1;", 1);
            } else {
                faulty(WHEN + "1" + sign + "=1;", 1, joins ? 15 : 14);
            }
        }
    }

    private static void blanks() {
        sentence("Blanks (32, 10) between");
        reads(" ", 0);
        reads("\n \n", 0);
        reads("  by\n\nmost  when \n1 =\n1 ; ", 1);
        reads("by most;\n", 1);
        reads("by keep;" + " ".repeat(392), 1);
        reads(" ".repeat(392) + "by keep;", 1);
        reads("\n".repeat(400), 0);
        faulty("b y most;", 1, 0);
        faulty("by\tmost;", 1, 2);
        faulty("by\rmost;", 1, 2);
        faulty("by\u00a0most;", 1, 2);
    }

    private static void wrapsByPlusAndMinus() {
        sentence("Ints, which wrap");
        String greatest = "9999*9999*21+9999*4790+8416";
        so(greatest + ">0", true);
        so(greatest + "+1<0", true);
        so(greatest + "+1=0-9999*9999*21-9999*4790-8416-1", true);
        so("0-9999*9999*21-9999*4790-8416-1<0", true);
        so("0-9999*9999*21-9999*4790-8416-2>0", true);
        so("0-9999*9999*21-9999*4790-8416-2=" + greatest, true);
        so(greatest + "+1<" + greatest, true);
    }

    private static void wrapsByTimes() {
        sentence("Ints, which wrap (by *)");
        so("4096*16*4096*4>0", true);
        so("4096*16*4096*8<0", true);
        so("4096*16*4096*8-1>0", true);
        so("4096*16*4096*16=0", true);
        so("3117*8251*167=0-7", true);
        so("8951*2651*181=0-15", true);
    }

    private static void partsTowardsZero() {
        sentence("/ goes towards 0");
        so("7/2=3", true);
        so("1/2=0", true);
        so("9998/9999=0", true);
        so("9999/9999=1", true);
        so("3117*8251*167/2=0-3", true);
        so("3117*8251*167/7=0-1", true);
        so("3117*8251*167/8=0", true);
        so("8951*2651*181/4=0-3", true);
        so("4096*16*4096*8/1<0", true);
        so("4096*16*4096*8/2=0-4096*16*4096*4", true);
        so("4096*16*4096*8/9999=0-9999*21-4790", true);
        so("0/1=0", true);
    }

    private static void firstFault() {
        sentence("FAULTS, the first by its place");
        faulty(WHEN + "1/0=1;$", 2, 15);
        faulty(WHEN + "$ and 1/0=1;", 1, 13);
        faulty(WHEN + "1/0=1 and (((((((((1=1;", 2, 15);
        faulty(WHEN + "((((((((( 1/0=1;", 3, 21);
        faulty(WHEN + "1/0", 2, 15);
        faulty(WHEN + "1/0 12345", 2, 15);
        faulty(WHEN + "1/00=1/0;", 2, 15);
        faulty(SIXTEEN_LINES + WHEN + "1/0=1;", 3, 128);
        faulty(EIGHT_LINES + "by;" + SIXTEEN_LINES, 1, 66);
        faulty("by most", 1, 7);
    }

    private static void leastFaultAtAPlace() {
        sentence("FAULTS, .. at one place the least");
        faulty(WHEN + "1/00000=1;", 1, 15);
        faulty(WHEN + "0/00000=1;", 1, 15);
        faulty(WHEN + "((((((((1(", 1, 22);
        faulty(WHEN + "((((((((1=(1", 1, 23);
        faulty(WHEN + "((((((((1 not", 1, 23);
        faulty(WHEN + "((((((((1=1 not 1=1", 1, 25);
        faulty(SIXTEEN_LINES.substring(0, 127) + " by keep;", 1, 128);
        faulty(SIXTEEN_LINES + "By keep;", 1, 128);
    }

    private static void faultAtTheEnd() {
        sentence("1 what can't stand there (the end: the text's length)");
        String text = "by most when not ( 1 + 1 = 1 ) and 1 * 1 = 1";
        for (int n = 1; n <= text.length(); n++) {
            String part = text.substring(0, n);
            boolean cut = part.equals("b") || part.matches("by m(os?)?|by most w(he?)?|by most when n(o)?|.*\\) an?");
            faulty(part, 1, cut ? part.lastIndexOf(' ') + 1 : n);
        }
        faulty("by   ", 1, 5);
        faulty("by most \n\n", 1, 10);
        faulty(WHEN + "1" + " ".repeat(386), 1, 400);
        faulty(" ".repeat(392) + "by keep ", 1, 400);
        faulty(" ".repeat(399) + "b", 1, 399);
        reads("", 0);
    }

    private static void partByNothing() {
        sentence("2 (at the NUMBER) a part by 0");
        for (String zero : new String[] {"0", "00", "000", "0000"}) {
            faulty(WHEN + "1/" + zero + "=1;", 2, 15);
            faulty(WHEN + "1=1*1/ " + zero + ";", 2, 20);
        }
        reads(WHEN + "1/1=1;", 1);
        reads(WHEN + "1/0001=1;", 1);
        reads(WHEN + "1/1000=1;", 1);
        reads(WHEN + "0/9999=1;", 1);
        reads(WHEN + "1*0=0;", 1);
        reads(WHEN + "1-0=1+0;", 1);
        faulty(WHEN + "1/1/0=1;", 2, 17);
        faulty("by keep;by most when year/3=0 or year/\n0=1;", 2, 39);
    }

    private static void seventeenthLine() {
        sentence("3 (at its KEYWORD) the 17th line");
        reads(SIXTEEN_LINES, 16);
        reads(SIXTEEN_LINES + " \n", 16);
        faulty(SIXTEEN_LINES + "by keep;", 3, 128);
        faulty(SIXTEEN_LINES + "\n by", 3, 130);
        faulty(SIXTEEN_LINES + "by by", 3, 128);
        faulty(SIXTEEN_LINES + SIXTEEN_LINES, 3, 128);
        faulty(SIXTEEN_LINES + "keep;", 1, 128);
        faulty(SIXTEEN_LINES + ";", 1, 128);
    }

    private static void ninthOpen() {
        sentence("3 .. (at it) the 9th ( or not that is open");
        reads(WHEN + "((((((((1=1))))))));", 1);
        faulty(WHEN + "(((((((((1=1)))))))));", 3, 21);
        reads(WHEN + "not not not not not not not not 1=1;", 1);
        faulty(WHEN + "not not not not not not not not not 1=1;", 3, 45);
        reads(WHEN + "not(not(not(not(1=1))));", 1);
        faulty(WHEN + "not(not(not(not((1=1)))));", 3, 29);
        faulty(WHEN + "not(not(not(not(not 1=1))));", 3, 29);
        faulty(WHEN + "(((((((( (", 3, 22);
        faulty(WHEN + "((((((((not", 3, 21);
    }

    private static void deepestIsJudged() {
        sentence("eight that are open are judged like one");
        String inner = "1=2 or 1=1 and 4=1+2*3-9/3";
        so("1=2 or 1=1 and (".repeat(8) + inner + ")".repeat(8), true);
        so("1=2 or 1=1 and (".repeat(8) + inner.replace("4=", "5=") + ")".repeat(8), false);
        so("not ".repeat(8) + "1=1", true);
        so("not ".repeat(7) + "1=1", false);
        so("not(".repeat(4) + "1=2 or 1=1" + ")".repeat(4), true);
        so("not((".repeat(2) + "not(" + inner + ")" + "))".repeat(2), false);
    }

    private static void fourHundredBytes() {
        sentence("a TEXT as long as the TAPE may be");
        String ones = WHEN + "1" + "+1".repeat(190);
        reads(ones + "=0191;", 1);
        x.plainWalls(1).people(0).views(0, 1).tastes(0, 0, 1);
        judged(1);
        reads(ones + "=0190;", 1);
        x.plainWalls(1).people(0).views(0, 1).tastes(0, 0, 1);
        judged(0);
        faulty(ones + "=00191", 1, 395);
        faulty(ones + "=19100", 1, 395);
        faulty(ones + "=0191$", 1, 399);
        faulty(ones + "+00/0 ", 2, 398);
        faulty(ones + "+00+0 ", 1, 400);
        reads("by keep;".repeat(15) + "by keep when 1" + "+1".repeat(129) + "=130  ;", 16);
    }

    private static void closedOnesAreNotOpen() {
        sentence("the 9th ( or not that is open: those that ended are not");
        reads(WHEN + "((((((((1=1)))))))) and ((((((((1=1))))))));", 1);
        reads(WHEN + "(((((((not 1=1 and not 1=1 or (1=1))))))));", 1);
        reads(WHEN + "not 1=1" + " and not 1=1".repeat(12) + ";", 1);
        reads(WHEN + "(1=1)" + " or (1=1)".repeat(12) + ";", 1);
        reads(WHEN + "((((((((1=1))))))));" + WHEN + "((((((((1=1))))))));", 2);
        faulty(WHEN + "((((((((1=1) and ((1=1", 3, 31);
        faulty(WHEN + "(((((((not not", 3, 24);
        faulty(WHEN + "(((((((not 1=1 and not (", 3, 36);
    }

    private static void ruleStays() {
        sentence("NONE: a FAULT (THE RULE stays as it was; the TAPE is empty, too)");
        x.plainWalls(1).people(0).views(0, 1).tastes(0, 0, 1).rule("by most;").fed("by keep;by keep when 1");
        due("text()", x.text(), NONE);
        judged(1);
        due("text() of nothing", x.text(), 0);
        judged(0);
    }

    private static void someOfIt() {
        sentence("SEERS of a WALL are those who SEE some of it.");
        x.plainWalls(2).people(0, 1).views(0, 1, 0).tastes(0, 0, 1).tastes(1, 0, 0, 1).rule("by window;");
        judged(1, 0);
        yes("view", x.view(1, 1, 1));
        judged(1, 2);
        yes("view", x.view(1, 1, 0));
        judged(1, 0);
        x.views(0, 1, 1).planted(0, 0, 1).yearsGo(1);
        judged(x.colour(0, 0), 1);
        x.views(0, 2);
        judged(1, 1);
    }

    private static void bestColours() {
        sentence("BEST COLOUR of one is that with the greatest SAID, of several the least.");
        int[][] said = {{0, 0, 0, 0}, {-9, -9, -9, -9}, {-9, -9, -9, -8}, {9, 9, 9, 9}, {8, 9, 9, 8}, {-1, 0, 0, -1}, {8, 8, 8, 9}, {9, 8, 8, 8},
            {-9, -8, -9, -8}};
        int[] best = {0, 0, 3, 0, 1, 1, 3, 0, 1};
        x.ofColours(4).walls(2, 2, 2, 2).people(0).views(0, 1, 1, 1, 1).rule("by most when wall=0;by window when wall=1;by yards when wall=2;by turn;");
        for (int i = 0; i < said.length; i++) {
            x.says(0, said[i]);
            judged(best[i], best[i], best[i], best[i]);
        }
        yes("two colours", x.colours(2));
        x.walls(1).people(0).views(0, 1).rule("by most;");
        judged(0);
    }

    private static void withoutSeers() {
        sentence("For a WALL without SEERS nothing changes");
        for (String method : new String[] {"most", "window", "yards", "sum", "turn", "keep"}) {
            x = new Counted().walls(0, 1, 2).rule("by " + method + ";");
            judged(0, 1, 2);
            x.people(0, 1).tastes(0, 9, 5, 5).tastes(1, 9, 5, 5);
            judged(0, 1, 2);
            x.views(3, 9, 9, 9);
            judged(0, 1, 2);
            due("become(1)", x.become(1), 0);
            x.views(1, 0, 0, 1);
            judged(0, 1, method.equals("keep") || method.equals("turn") ? 2 : 0);
        }
    }

    private static void firstLine() {
        sentence("else by the first line whose B is so, or that has none (none: keep)");
        x.walls(0, 0).people(0, 1).views(0, 5, 5).views(1, 2, 2).tastes(0, 0, 0, 1).tastes(1, -8, 9, -9);
        judgedBy("by most;by sum;", 2, 2);
        judgedBy("by most when wall=0;by keep;", 2, 0);
        judgedBy("by most when wall=1;by sum;", 1, 2);
        judgedBy("by most when 1=2;by sum when 1=2;", 0, 0);
        judgedBy("by keep when 1=2;by most when 1=1;by sum when 1=1;", 2, 2);
        judgedBy("by sum when wall=1;by most when wall=0;by keep;", 2, 1);
        judgedBy("by keep when 1=2;".repeat(15) + "by most;", 2, 2);
        judgedBy("by keep when 1=2;".repeat(15) + "by most when wall=1;", 0, 2);
        judgedBy("", 0, 0);
    }

    private static void mostYards() {
        sentence("most: the BEST COLOUR of the SEER with the most yards (of several the lesser number)");
        x.walls(0).people(5, 3, 1).tastes(0, 0, 1, 0).tastes(1, 0, 0, 1).tastes(2, 1, 0, 0).rule("by most;");
        x.views(5, 7).views(3, 7).views(1, 7);
        judged(1);
        x.views(3, 8);
        judged(2);
        x.views(1, 8);
        judged(2);
        x.views(1, 9);
        judged(0);
        x.views(5, 0).views(3, 0).views(1, 1);
        judged(0);
    }

    private static void windows() {
        sentence("window: that which is the BEST COLOUR of most SEERS (of several the least)");
        x.walls(0).people(0, 1, 2, 3).rule("by window;").tastes(0, 0, 0, 1).tastes(1, 0, 1, 0).tastes(2, 0, 1, 0).tastes(3, 0, 0, 1);
        x.views(0, 99).views(1, 1).views(2, 1).views(3, 99);
        judged(1);
        x.views(1, 0);
        judged(2);
        x.views(0, 0);
        judged(1);
        x.views(2, 0);
        judged(2);
    }

    private static void mostYardsTogether() {
        sentence("yards: of SEERS with the most yards together (of several the least)");
        x.walls(0).people(0, 1, 2).rule("by yards;").tastes(0, 0, 0, 1).tastes(1, 0, 1, 0).tastes(2, 0, 1, 0);
        x.views(0, 50).views(1, 25).views(2, 25);
        judged(1);
        x.views(0, 51);
        judged(2);
        x.views(2, 26);
        judged(1);
        x.views(1, 0);
        judged(2);
    }

    private static void greatestSums() {
        sentence("sum: that with the greatest sum of yards times SAID of SEERS (of all three of several the least)");
        x.ofColours(4).walls(2).people(0, 1).views(0, 99).views(1, 99).rule("by sum;");
        judged(0);
        x.says(0, -9, -9, -9, -9).says(1, -9, -9, -9, -9);
        judged(0);
        x.says(0, -9, -9, -8, -8);
        judged(2);
        x.says(1, -9, -9, -9, -8);
        judged(3);
        x.says(0, 9, -9, -9, -9).says(1, -9, 9, -9, -9);
        judged(0);
        x.views(1, 98);
        judged(0);
        x.views(1, 99).views(0, 98);
        judged(1);
        x.views(0, 0);
        judged(1);
        x.views(1, 1).says(1, 9, 9, 9, 9);
        judged(0);
    }

    private static void turns() {
        sentence("turn: the BEST COLOUR of one, whose number is YEAR and the WALL's number together modulo how many PEOPLE there are");
        int[] colours = {1, 2, 3, 1, 2, 3, 2};
        x.ofColours(4).plainWalls(7).peopleInRow(7);
        for (int h = 0; h < 7; h++) x.views(h, 1, 1, 1, 1, 1, 1, 1);
        for (int p = 0; p < 7; p++) {
            yes("taste", x.tell(p, 0, colours[p], 9));
        }
        x.rule("by turn;");
        for (int year = 0; year < 9; year++) {
            for (int w = 0; w < 7; w++) due("wall " + w + " in year " + year, x.colour(w, 1), colours[(year + w) % 7]);
            x.yearsGo(1);
        }
        x.yearsGo(990);
        for (int w = 0; w < 7; w++) due("wall " + w + " in year 999", x.colour(w, 1), colours[(999 + w) % 7]);
    }

    private static void turnOfNoSeer() {
        sentence("turn: .. if he is a SEER (else keep)");
        x.walls(0, 0, 0).people(0, 1).tastes(0, 0, 1, 0).tastes(1, 0, 0, 1).rule("by turn;");
        x.views(0, 1, 99, 1).views(1, 99, 1, 99);
        judged(1, 2, 1);
        x.views(0, 0, 99, 0);
        judged(0, 2, 0);
        x.views(1, 99, 0, 99);
        judged(0, 0, 0);
    }

    private static void turnOfTheOnlyOne() {
        sentence("turn: .. modulo how many PEOPLE there are (one, none)");
        x.walls(0, 0).rule("by turn;");
        judged(0, 0);
        x.people(4).views(4, 1, 1).tastes(0, 0, 0, 1);
        judged(2, 2);
        x.yearsGo(1);
        judged(2, 2);
    }

    private static void allAtOnce() {
        sentence("JUDGED: all WALLS by THE RULE, at once (by THE PAINTING as it was).");
        x.walls(0, 1, 2).people(0).views(0, 1, 1, 1).tastes(0, 0, 0, 1).rule("by most when colour<2;");
        judged(2, 2, 2);
        painting(0, 1, 2);
        due("become(1)", x.become(1), 2);
        x.says(0, 9, 0, 0);
        judged(2, 2, 2);
        due("become(1)", x.become(1), 0);
    }

    private static void saysNineAndMinusNine() {
        sentence("one says of a COLOUR 9 and of all others -9");
        x.walls(2).people(0, 1).views(0, 10).views(1, 10).tastes(0, 0, 1, 0).says(1, 9, -9, -9).rule("by sum;");
        due("as much said is not enough for the greater colour", x.gains(0, 0), NONE);
        x.views(0, 11);
        due("a yard more is", x.gains(0, 0), 1);
        due("gain", x.gains(0, 1), 11);
        x.views(0, 10).tastes(0, 1, 0, 0).says(1, -9, 9, -9).says(0, -9, -9, -9);
        due("as much said is enough for the lesser colour", x.gains(0, 0), 0);
        due("gain", x.gains(0, 1), 10);
        x.views(1, 11);
        due("a yard less is not", x.gains(0, 0), NONE);
    }

    // By saying -9 of all he would leave each wall to one who sees it, and they would be unlike.
    private static void saysOneOfTheColours() {
        sentence("one says of a COLOUR 9 and of all others -9 (of one of the COLOURS that there are)");
        for (int c = 3; c <= 4; c++) {
            x = new Counted().ofColours(c).walls(2, 2).people(0, 1, 2).views(0, 10, 10).views(1, 1, 0).views(2, 0, 1).rule("by sum;");
            x.neighbours(0, 1).likesBeside(0, -9).says(0, 9, -9, -9).says(1, -9, 9, -9).says(2, -9, -9, 9);
            judged(0, 0);
            due("gains(0, 0)", x.gains(0, 0), NONE);
            due("gains(0, 1)", x.gains(0, 1), 0);
            x.says(0, -9, -9, -9);
            judged(c == 4 ? 3 : 1, c == 4 ? 3 : 2);
        }
    }

    private static void gainAboveNothing() {
        sentence("the best saying is the COLOUR with the greatest GAIN (of several the least), if that is above 0");
        x.walls(0).people(0).views(0, 1).rule("by window;");
        int[][] tastes = {{0, 0, 0}, {0, 1, 0}, {0, 0, 1}, {0, 1, 1}, {1, 0, 0}, {-9, -9, -9}, {-9, -8, -9}, {-9, 9, 9}, {0, -1, -9}};
        int[] sayings = {NONE, 1, 2, 1, NONE, NONE, 1, 1, NONE};
        int[] gains = {0, 1, 1, 1, 0, 0, 1, 18, 0};
        for (int i = 0; i < tastes.length; i++) {
            x.tastes(0, tastes[i]).says(0, 9, 0, 0);
            due("gains(0, 0)", x.gains(0, 0), sayings[i]);
            due("gains(0, 1)", x.gains(0, 1), gains[i]);
        }
        x.tastes(0, 0, 1, 0);
        due("who says what he likes", x.gains(0, 0), NONE);
        x.tastes(0, -5, 3, 9).says(0, 9, 0, 0);
        due("the greatest gain", x.gains(0, 0), 2);
        due("the greatest gain", x.gains(0, 1), 14);
        due("nothing was said otherwise", x.colour(0, 1), 0);
    }

    private static void gainsOfWhatIsNotSeen() {
        sentence("GAIN: WORTH to him of what is JUDGED then less that of what is JUDGED as SAID");
        x.people(0);
        due("without walls", x.gains(0, 0), NONE);
        due("without walls", x.gains(0, 1), 0);
        x.walls(0, 0).tastes(0, 0, 9).says(0, 9, 0, 0).rule("by most;");
        due("of walls that he does not see", x.gains(0, 0), NONE);
        due("of walls that he does not see", x.gains(0, 1), 0);
        x.views(0, 1, 1).neighbours(0, 1).likesBeside(0, -3).rule("by most when wall=0;");
        due("9 and no two alike", x.gains(0, 1), 12);
        x.likesBeside(0, 9);
        due("9 less two alike are none", x.gains(0, 1), 0);
        x.likesBeside(0, 8);
        due("9 less two alike are 1", x.gains(0, 1), 1);
    }

    public static void main(String[] args) {
        emptyAtFirst();
        linesOfText();
        methodNames();
        ors();
        ands();
        comparisons();
        notAndBrackets();
        sums();
        products();
        wallNumbers();
        howManySee();
        theMostOfOne();
        colourNumbers();
        yearNumbers();
        keywords();
        letters();
        numbers();
        everyByte();
        everyByteBehindANumber();
        blanks();
        wrapsByPlusAndMinus();
        wrapsByTimes();
        partsTowardsZero();
        firstFault();
        leastFaultAtAPlace();
        faultAtTheEnd();
        partByNothing();
        seventeenthLine();
        ninthOpen();
        deepestIsJudged();
        fourHundredBytes();
        closedOnesAreNotOpen();
        ruleStays();
        someOfIt();
        bestColours();
        withoutSeers();
        firstLine();
        mostYards();
        windows();
        mostYardsTogether();
        greatestSums();
        turns();
        turnOfNoSeer();
        turnOfTheOnlyOne();
        allAtOnce();
        saysNineAndMinusNine();
        saysOneOfTheColours();
        gainAboveNothing();
        gainsOfWhatIsNotSeen();
        finish();
    }
}
