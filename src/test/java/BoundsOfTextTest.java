import java.util.Arrays;

/** Section 1 and promises 1 to 4: the text, its bounds, its faults and the letters at which they stand. */
public final class BoundsOfTextTest {
    private static final Check CHECK = new Check("BoundsOfTextTest");
    private static final int NONE = Check.NONE, FULL = Check.FULL;
    private static final String[] NINE_BRIDGES = {"b0 1 2 0;", "b0 2 2 0;", "b0 3 2 0;", "b0 4 2 0;", "b0 5 2 0;",
        "b0 6 2 0;", "b0 7 2 0;", "b1 2 2 0;", "b1 3 2 0;"};

    public static void main(String[] args) {
        letters();
        endOfTheText();
        numbersInTheirBounds();
        placesThatThereAre();
        figures();
        noFigures();
        blanks();
        blanksWithinNumbers();
        numbersSideBySide();
        firstAndOnce();
        lettersThatCannotStand();
        howManyAtMost();
        unlikePlaces();
        noTwoBetweenTheSame();
        firstFault();
        leastFault();
        postedWhenTheTextEnds();
        emptyText();
        emptyTextAheadOfATown();
        townWithAFault();
        townForgets();
        latestFault();
        newObject();
        CHECK.end();
    }

    private static void fault(String text, int number, int at) {
        Play x = new Play().tell(text);
        CHECK.due("town() of '" + text + "'", x.town(), -10 - number);
        CHECK.due("fault() of '" + text + "'", x.fault(), at);
        CHECK.due("letters behind '" + text + "'", x.told(4), 0);
        CHECK.due("places behind '" + text + "'", x.told(0), 0);
    }

    private static Play good(String text, int bridges) {
        Play x = new Play().tell(text);
        CHECK.due("town() of '" + text + "'", x.town(), bridges);
        CHECK.due("fault() of '" + text + "'", x.fault(), NONE);
        CHECK.due("letters behind '" + text + "'", x.told(4), 0);
        return x;
    }

    private static void letters() {
        CHECK.about("1: 240 letters at most");
        Play x = new Play();
        for (int i = 1; i <= 238; i++) {
            CHECK.due("feed() of letter " + i, x.feed(i == 1 ? 'n' : i == 2 ? '2' : ' '), i);
        }
        CHECK.due("letters", x.told(4), 238);
        CHECK.due("feed() of letter 239", x.feed(' '), 239);
        CHECK.due("feed() of letter 240", x.feed(';'), 240);
        CHECK.due("letters", x.told(4), 240);
        CHECK.refused("feed() of letter 241", x, y -> y.feed(' '), FULL);
        CHECK.refused("feed() of one that would be a fault", x, y -> y.feed('x'), FULL);
        Play lived = Towns.lived().tell("n3;" + " ".repeat(237));
        CHECK.refused("feed() of letter 241 where there is a town", lived, y -> y.feed(' '), FULL);
        CHECK.due("town() of 240 letters", x.like().town(), 0);
        x.town();
        CHECK.due("places", x.told(0), 2);
        CHECK.due("letters", x.told(4), 0);
        CHECK.due("feed() behind town()", x.feed('n'), 1);
    }

    private static void endOfTheText() {
        CHECK.about("1: FAULTS: the end at the text's length");
        fault("n", 1, 1);
        fault("n2", 1, 2);
        fault("n2;b", 1, 4);
        fault("n2;b0", 1, 5);
        fault("n2;b0 1", 1, 7);
        fault("n2;b0 1 2", 1, 9);
        fault("n2;b0 1 2 0", 1, 11);
        fault("n2;k", 1, 4);
        fault("n2;k0", 1, 5);
        fault("n2;k0 1", 1, 7);
        fault("n2;j", 1, 4);
        fault("n2;j0", 1, 5);
        fault("n2;j0 1", 1, 7);
        fault("n2;j0 1  ", 1, 9);
        fault("n" + " ".repeat(238), 1, 239);
        fault("n2" + " ".repeat(237), 1, 239);
        fault("n2" + " ".repeat(238), 1, 240);
        good("n2" + " ".repeat(237) + ";", 0);
        good("n2;" + " ".repeat(237), 0);
        fault("n2;" + " ".repeat(236) + "x", 1, 239);
        fault(" ".repeat(239) + "n", 1, 240);
        fault(" ".repeat(238) + "n1", 2, 239);
        fault("n2;" + " ".repeat(236) + "n", 3, 239);
    }

    /** Each number 0 to 999 in each place of a number, told as short as it can be and with three figures. */
    private static void numbersInTheirBounds() {
        CHECK.about("1: N 2 .. 8");
        eachNumber("n", ";", 2, 8, x -> x.told(0));
        CHECK.about("1: AIR T, 2 .. 40");
        eachNumber("n2;b0 1 ", " 50;", 2, 40, x -> x.bridge(0, 2));
        CHECK.about("1: JAMS Q times of a hundred, 0 .. 99");
        eachNumber("n2;b0 1 2 ", ";", 0, 99, x -> x.bridge(0, 3));
        CHECK.about("1: 'k': KIND K, 0 .. 3");
        eachNumber("n2;k", " 20;", 0, 3, x -> x.keeper(0, 0));
        CHECK.about("1: needs R, 1 .. 40");
        eachNumber("n2;k0 ", ";", 1, 40, x -> x.keeper(0, 1));
        CHECK.about("1: 'j': KIND K, 0 .. 3");
        eachNumber("n2;k0 20;j", " 0;", 0, 3, x -> x.jumper(0, 0));
    }

    private static void eachNumber(String before, String behind, int least, int most, Check.Call asked) {
        int bridges = before.contains("b") ? 1 : 0;
        for (int n = 0; n <= 999; n++) {
            for (String told : new String[] {"" + n, String.format("%03d", n)}) {
                if (n < least || n > most) {
                    fault(before + told + behind, 2, before.length());
                    fault(before + told, 2, before.length());
                } else {
                    CHECK.due(told + " in " + before, asked.on(good(before + told + behind, bridges)), n);
                    fault(before + told, 1, before.length() + told.length());
                }
            }
        }
    }

    private static void placesThatThereAre() {
        CHECK.about("1: PLACES 0 .. N less 1; a PLACE that there is not");
        for (int n = 2; n <= 8; n++) {
            String town = "n" + n + ";";
            CHECK.due("places of " + town, good(town, 0).told(0), n);
            for (int x = 0; x <= 999; x++) {
                String jumper = town + "j0 ";
                String ends = town + "b";
                String toZero = ends + x + " ";
                if (x < n) {
                    CHECK.due("place of " + jumper + x, good(jumper + x + ";", 0).jumper(0, 1), x);
                } else {
                    fault(jumper + x + ";", 2, jumper.length());
                    fault(toZero + "0 2 0;", 2, ends.length());
                    fault(ends + "0 " + x + " 2 0;", 2, ends.length() + 2);
                }
                if (x > 0 && x < n) {
                    CHECK.due("A of " + toZero + "0", good(toZero + "0 2 0;", 1).bridge(0, 0), x);
                    CHECK.due("B of " + ends + "0 " + x, good(ends + "0 " + x + " 2 0;", 1).bridge(0, 1), x);
                }
            }
        }
    }

    private static void figures() {
        CHECK.about("1: NUMBERS have one to three figures; 2 a NUMBER of four figures or more (at its first)");
        String[] parts = {"n", "2", ";b", "0", " ", "1", " ", "9", " ", "5", ";k", "3", " ", "7", ";j", "2", " ", "1", ";"};
        for (int i = 1; i < parts.length; i += 2) {
            String before = String.join("", Arrays.copyOfRange(parts, 0, i));
            String behind = String.join("", Arrays.copyOfRange(parts, i + 1, parts.length));
            for (int zeros = 0; zeros <= 2; zeros++) {
                good(before + "0".repeat(zeros) + parts[i] + behind, 1);
            }
            for (int zeros : new int[] {3, 4, 9, 31, 63, 180}) {
                fault(before + "0".repeat(zeros) + parts[i] + behind, 2, before.length());
                fault(before + parts[i] + "0".repeat(zeros) + behind, 2, before.length());
            }
            fault(before + "0".repeat(3) + parts[i], 2, before.length());
            fault(before + "4294967296" + behind, 2, before.length());
            fault(before + "429496729" + parts[i] + behind, 2, before.length());
        }
    }

    private static void noFigures() {
        CHECK.about("1: NUMBERS have one figure at least: else what follows cannot stand there");
        fault("n;", 1, 1);
        fault("n ;", 1, 2);
        fault("n2;b;", 1, 4);
        fault("n2;b0;", 1, 5);
        fault("n2;b0 ;", 1, 6);
        fault("n2;b0 1;", 1, 7);
        fault("n2;b0 1 2;", 1, 9);
        fault("n2;k;", 1, 4);
        fault("n2;k0;", 1, 5);
        fault("n2;k0 ;", 1, 6);
        fault("n2;j;", 1, 4);
        fault("n2;j0;", 1, 5);
        fault("n-2;", 1, 1);
        fault("n+2;", 1, 1);
    }

    private static void blanks() {
        CHECK.about("1: blanks (32) may stand anywhere but within NUMBERS");
        String[] parts = {"n", "4", ";", "b", "0", " ", "1", " ", "9", " ", "5", ";", "b", "1", " ", "2", " ", "40", " ",
            "99", ";", "k", "0", " ", "3", ";", "k", "2", " ", "40", ";", "j", "0", " ", "3", ";"};
        String plain = Picture.of(good(String.join("", parts), 2));
        for (int blanks = 1; blanks <= 5; blanks++) {
            String gap = " ".repeat(blanks);
            CHECK.holds("blanks everywhere change nothing",
                Picture.of(good(gap + String.join(gap, parts) + gap, 2)).equals(plain));
        }
        for (int i = 0; i <= parts.length; i++) {
            String before = String.join("", Arrays.copyOfRange(parts, 0, i));
            String behind = String.join("", Arrays.copyOfRange(parts, i, parts.length));
            CHECK.holds("a blank ahead of '" + behind + "' changes nothing",
                Picture.of(good(before + " " + behind, 2)).equals(plain));
        }
    }

    private static void blanksWithinNumbers() {
        CHECK.about("1: no blanks within NUMBERS");
        CHECK.due("need of 12", good("n2;k0 12;", 0).keeper(0, 1), 12);
        fault("n2;k0 1 2;", 1, 8);
        fault("n2;k0 1  2;", 1, 9);
        fault("n2;b0 1 4 0 5;", 1, 12);
        fault("n2;b0 1 2 9 9;", 1, 12);
        fault("n0 2;", 2, 1);
        fault("n2 0;", 1, 3);
    }

    private static void numbersSideBySide() {
        CHECK.about("1: two NUMBERS side by side need one");
        Play x = good("n3;b01 2 3 4;", 1);
        CHECK.due("A of 01", x.bridge(0, 0), 1);
        CHECK.due("B", x.bridge(0, 1), 2);
        fault("n3;b01 2 3;", 1, 10);
        fault("n3;b0 12 3;", 2, 6);
        fault("n3;b0 1 23;", 1, 10);
        fault("n2;k01;", 1, 6);
        fault("n2;j01;", 1, 6);
        fault("n2;b0123;", 2, 4);
        good("n3;b0 1 2 3;k0 1;j0 2;", 1);
    }

    private static void firstAndOnce() {
        CHECK.about("1: 'n' first; another word first than 'n'");
        fault("b0 1 2 0;n2;", 1, 0);
        fault("k0 1;n2;", 1, 0);
        fault("j0 0;n2;", 1, 0);
        fault("b", 1, 0);
        fault("  k", 1, 2);
        fault(";n2;", 1, 0);
        CHECK.about("1: 'n' once; 3 'n' again (at it)");
        fault("n2;n", 3, 3);
        fault("n2;n2;", 3, 3);
        fault("n2;  n3;", 3, 5);
        fault("n2;b0 1 2 0;n2;", 3, 12);
        fault("n2;k0 1;n", 3, 8);
        fault("n2;j0 1;n", 3, 8);
    }

    /** Each letter 0 to 255 behind a text that is right so far. */
    private static void lettersThatCannotStand() {
        CHECK.about("1: FAULT 1 it cannot stand there (a letter that is no word)");
        for (int letter = 0; letter <= 255; letter++) {
            char c = (char) letter;
            boolean figure = c >= '0' && c <= '9';
            boolean blank = c == ' ';
            afterNothing(c);
            afterAClause("n2;", 0, c);
            afterAClause("n2;b0 1 2 0;", 1, c);
            afterAClause("n2;k0 1;", 0, c);
            afterAClause("n2;j0 1;", 0, c);
            if (!figure) {
                whereANumberIs("n", c, blank);
                whereANumberIs("n2;b", c, blank);
                whereANumberIs("n2;b0 ", c, blank);
                whereANumberIs("n2;b0", c, blank);
                whereANumberIs("n2;b0 1 ", c, blank);
                whereANumberIs("n2;b0 1 2 ", c, blank);
                whereANumberIs("n2;k", c, blank);
                whereANumberIs("n2;k0", c, blank);
                whereANumberIs("n2;j", c, blank);
                whereANumberIs("n2;j0", c, blank);
                whereTheClauseEnds("n2", c, 0);
                whereTheClauseEnds("n2;b0 1 2 0", c, 1);
                whereTheClauseEnds("n2;k0 1", c, 0);
                whereTheClauseEnds("n2;j0 1", c, 0);
            }
            if (c != ';') {
                whereTheClauseMustEnd("n2 ", c, blank);
                whereTheClauseMustEnd("n2;b0 1 2 0 ", c, blank);
                whereTheClauseMustEnd("n2;k0 1 ", c, blank);
                whereTheClauseMustEnd("n2;j0 1 ", c, blank);
            }
        }
    }

    private static void afterNothing(char c) {
        if (c == ' ') {
            good(" ", 0);
        } else {
            fault("" + c, 1, c == 'n' ? 1 : 0);
        }
    }

    private static void afterAClause(String text, int bridges, char c) {
        if (c == ' ') {
            good(text + c, bridges);
        } else if (c == 'n') {
            fault(text + c, 3, text.length());
        } else {
            boolean word = c == 'b' || c == 'k' || c == 'j';
            fault(text + c, 1, word ? text.length() + 1 : text.length());
        }
    }

    private static void whereANumberIs(String text, char c, boolean blank) {
        fault(text + c, 1, blank ? text.length() + 1 : text.length());
    }

    private static void whereTheClauseEnds(String text, char c, int bridges) {
        if (c == ';') {
            good(text + c, bridges);
        } else {
            fault(text + c, 1, c == ' ' ? text.length() + 1 : text.length());
        }
    }

    private static void whereTheClauseMustEnd(String text, char c, boolean blank) {
        fault(text + c, 1, blank ? text.length() + 1 : text.length());
        if (!blank) {
            fault(text + c + ";", 1, text.length());
        }
    }

    private static void howManyAtMost() {
        CHECK.about("1: 9 BRIDGES at most; 3 a tenth 'b' (at it)");
        StringBuilder bridges = new StringBuilder("n8;");
        for (int i = 0; i < 9; i++) {
            CHECK.due("bridges", good(bridges.toString(), i).told(1), i);
            bridges.append(NINE_BRIDGES[i]);
        }
        CHECK.due("nine bridges", good(bridges.toString(), 9).told(1), 9);
        atMost(bridges.toString(), "b1 4 2 0;");
        CHECK.about("1: 9 KEEPERS at most; 3 a tenth 'k' (at it)");
        for (int i = 0; i <= 9; i++) {
            CHECK.due("keepers", good("n2;" + "k0 1;".repeat(i), 0).told(2), i);
        }
        atMost("n2;" + "k0 1;".repeat(9), "k0 1;");
        CHECK.about("1: 6 JUMPERS at most; 3 a seventh 'j' (at it)");
        for (int i = 0; i <= 6; i++) {
            CHECK.due("jumpers", good("n2;" + "j0 1;".repeat(i), 0).told(3), i);
        }
        atMost("n2;" + "j0 1;".repeat(6), "j0 1;");
        CHECK.about("1: 9 BRIDGES, 9 KEEPERS, 6 JUMPERS at once");
        String all = bridges + "k0 1;".repeat(9) + "j0 1;".repeat(6);
        Play x = good(all, 9);
        CHECK.due("keepers", x.told(2), 9);
        CHECK.due("jumpers", x.told(3), 6);
        atMost(all, "b1 4 2 0;");
        atMost(all, "k0 1;");
        atMost(all, "j0 1;");
    }

    private static void atMost(String text, String clause) {
        fault(text + clause, 3, text.length());
        fault(text + clause.charAt(0), 3, text.length());
        fault(text + clause.charAt(0) + "x", 3, text.length());
        fault(text + "  " + clause, 3, text.length() + 2);
    }

    private static void unlikePlaces() {
        CHECK.about("1: between unlike PLACES; 4 B like A (at the B)");
        for (int n = 2; n <= 8; n++) {
            for (int a = 0; a < n; a++) {
                for (int b = 0; b < n; b++) {
                    String text = "n" + n + ";b" + a + " " + b;
                    if (a == b) {
                        fault(text + " 2 0;", 4, 6);
                        fault(text, 4, 6);
                    } else {
                        good(text + " 2 0;", 1);
                    }
                }
            }
        }
        fault("n2;b1 001 2 0;", 4, 6);
        fault("n2;b001   01 2 0;", 4, 10);
    }

    private static void noTwoBetweenTheSame() {
        CHECK.about("1: no two between the same; 4 both have a BRIDGE already (at the B)");
        String two = "n8;b2 5 2 0;b5 7 2 0;";
        for (int a = 0; a < 8; a++) {
            for (int b = 0; b < 8; b++) {
                boolean there = a != b && (a == 5 || b == 5) && (a + b == 7 || a + b == 12);
                if (there) {
                    fault(two + "b" + a + " " + b + " 2 0;", 4, two.length() + 3);
                    fault(two + "b" + a + " " + b, 4, two.length() + 3);
                } else if (a != b) {
                    good(two + "b" + a + " " + b + " 2 0;", 3);
                }
            }
        }
        StringBuilder nine = new StringBuilder("n8;");
        for (int i = 0; i < 8; i++) {
            nine.append(NINE_BRIDGES[i]);
        }
        for (int i = 0; i < 8; i++) {
            fault(nine + NINE_BRIDGES[i], 4, nine.length() + 3);
        }
    }

    private static void firstFault() {
        CHECK.about("1: FAULTS, at the first letter that has one");
        fault("n9x", 2, 1);
        fault("n9;x", 2, 1);
        fault("x n9;", 1, 0);
        fault("n2;x;n2;", 1, 3);
        fault("n2;n9", 3, 3);
        fault("n2;n;x", 3, 3);
        fault("n2;b2 2 1 100;", 2, 4);
        fault("n2;b0 2 1 100;", 2, 6);
        fault("n2;b0 0 1 100;", 4, 6);
        fault("n2;b0 1 1 100;", 2, 8);
        fault("n2;b0 1 2 100;x", 2, 10);
        fault("n2;b0 0x", 4, 6);
        fault("n2;b0 1 41", 2, 8);
        fault("n2;k4 0;", 2, 4);
        fault("n2;k3 0;", 2, 6);
        fault("n2;j4 2;", 2, 4);
        fault("n2;j3 2;", 2, 6);
        fault("n2;b0 0 2 0;n2;", 4, 6);
        fault("n2;n2;b0 0 2 0;", 3, 3);
    }

    private static void leastFault() {
        CHECK.about("1: of these the least");
        fault("n2 2222;", 1, 3);
        fault("n2;k0 1 99;", 1, 8);
        fault("n2;b0 1 2 0 9999;", 1, 12);
        fault("2222", 1, 0);
        fault("n2;9999", 1, 3);
        fault("nn", 1, 1);
        fault("n2n", 1, 2);
        fault("n2;k0 n", 1, 6);
        fault("n2;" + "k0 1;".repeat(8) + "k0 k", 1, 46);
        fault("n2;" + "j0 1;".repeat(6) + "x", 1, 33);
        fault("n2;b0 0000 2 0;", 2, 6);
        fault("n2;b0 1 2 0;b0 0001 2 0;", 2, 15);
        fault("n2;b1 0000001 2 0;", 2, 6);
    }

    private static void postedWhenTheTextEnds() {
        CHECK.about("1: the k-th is posted at BRIDGE k, if there is one when the text ends");
        for (int bridges = 0; bridges <= 9; bridges++) {
            StringBuilder told = new StringBuilder();
            for (int i = 0; i < bridges; i++) {
                told.append(NINE_BRIDGES[i]);
            }
            for (int keepers = 0; keepers <= 9; keepers++) {
                posted(good("n8;" + told + "k0 1;".repeat(keepers), bridges), bridges, keepers);
                posted(good("n8;" + "k0 1;".repeat(keepers) + told, bridges), bridges, keepers);
            }
        }
    }

    private static void posted(Play x, int bridges, int keepers) {
        for (int k = 0; k < keepers; k++) {
            CHECK.due("bridge of keeper " + k + " of " + bridges + " bridges", x.keeper(k, 2), k < bridges ? k : NONE);
        }
        for (int b = 0; b < bridges; b++) {
            CHECK.due("keeper of bridge " + b + " of " + keepers + " keepers", x.bridge(b, 4), b < keepers ? b : NONE);
        }
        CHECK.due("bridges with a keeper", x.told(6), Math.min(bridges, keepers));
    }

    private static void emptyText() {
        CHECK.about("1: An empty text (or one of blanks alone): no TOWN");
        for (int blanks : new int[] {0, 1, 2, 239, 240}) {
            Play x = new Play().tell(" ".repeat(blanks));
            CHECK.due("town() of " + blanks + " blanks", x.town(), 0);
            CHECK.due("fault()", x.fault(), NONE);
            for (int what = 0; what <= 14; what++) {
                CHECK.due("told(" + what + ")", x.told(what), what == 10 ? NONE : 0);
            }
            CHECK.due("hour(1)", x.hour(1), Check.NOT);
            CHECK.due("way(0, 0, 0)", x.way(0, 0, 0), Check.UNKNOWN);
        }
    }

    private static void emptyTextAheadOfATown() {
        CHECK.about("1: An empty text: no TOWN, where there was one");
        for (int blanks : new int[] {0, 1, 40}) {
            Play x = Towns.lived();
            x.tell(" ".repeat(blanks));
            CHECK.due("town() of " + blanks + " blanks", x.town(), 0);
            CHECK.due("the seed stays", x.like().seed(0), 77);
            x.seed(0);
            CHECK.holds("all else is like a new object", Picture.of(x).equals(Picture.of(new Play())));
        }
    }

    private static void townWithAFault() {
        CHECK.about("3: THE TEXT (it is empty then, with a FAULT, too); -10 less its number (all else is as it was)");
        String[] faulty = {"x", "n9;", "n2;n2;", "n2;b0 0 2 0;", "n2;b0 1 2 0;k0 1;j0 1;x"};
        int[] answers = {-11, -12, -13, -14, -11};
        int[] at = {0, 1, 3, 6, 22};
        for (int i = 0; i < faulty.length; i++) {
            Play x = Towns.lived();
            String before = Picture.withoutText(x);
            x.tell(faulty[i]);
            CHECK.due("town() of '" + faulty[i] + "'", x.town(), answers[i]);
            CHECK.due("fault()", x.fault(), at[i]);
            CHECK.due("letters", x.told(4), 0);
            CHECK.holds("'" + faulty[i] + "' changes something", Picture.withoutText(x).equals(before));
        }
    }

    private static void townForgets() {
        CHECK.about("3: HOUR 0, KEEPERS posted, JUMPERS as told, nobody TIRED, ...; THE SEED stays");
        for (String text : new String[] {Towns.SMALL, "n2;", "n8;b7 6 40 99;k3 40;j3 7;"}) {
            Play x = Towns.lived();
            x.tell(text);
            CHECK.holds("both were over and dried", x.like().jumper(0, 3) > 0 && x.like().jumper(0, 4) > 0
                && x.like().jumper(1, 3) > 0 && x.like().jumper(1, 4) > 0);
            int bridges = x.town();
            Play fresh = new Play();
            fresh.seed(77);
            fresh.tell(text);
            CHECK.due("town() of '" + text + "'", bridges, fresh.town());
            CHECK.holds("'" + text + "' is not as in a new object", Picture.of(x).equals(Picture.of(fresh)));
        }
    }

    private static void latestFault() {
        CHECK.about("4: The letter of the FAULT of the latest town(); NONE");
        Play x = new Play();
        CHECK.due("fault() of a new object", x.fault(), NONE);
        x.tell("n2;x");
        CHECK.due("fault() ahead of town()", x.fault(), NONE);
        x.town();
        CHECK.due("fault()", x.fault(), 3);
        x.tell("n2;");
        CHECK.due("fault() as letters are fed", x.fault(), 3);
        x.town();
        CHECK.due("fault() of a good town", x.fault(), NONE);
        x.tell("n1;");
        x.town();
        CHECK.due("fault() of a second fault", x.fault(), 1);
        x.hour(1);
        x.undo();
        x.keep(0);
        x.goBack(0);
        CHECK.due("fault() stays", x.fault(), 1);
        x.town();
        CHECK.due("fault() of an empty text", x.fault(), NONE);
    }

    private static void newObject() {
        CHECK.about("1 (promise): A new object: no TOWN");
        for (int what = 0; what <= 14; what++) {
            CHECK.due("told(" + what + ")", new Play().told(what), what == 10 ? NONE : 0);
        }
        Play x = new Play();
        CHECK.due("seed(1)", x.seed(1), 0);
        CHECK.due("quick(0)", x.quick(0), 40);
        CHECK.due("judge()", x.judge(), NONE);
        CHECK.due("tear()", x.tear(), 0);
        CHECK.due("undo()", x.undo(), Check.NOT);
        CHECK.due("goBack(1)", x.goBack(1), Check.NOT);
    }
}
