import java.math.BigInteger;

/** Section 3 and promises 24 to 31: what is paid, the odds, what is seen, the book, on their bounds. */
public final class BoundsOfSeenTest {
    private static final Check CHECK = new Check("BoundsOfSeenTest");
    private static final int NONE = Check.NONE;

    public static void main(String[] args) {
        nothingSeen();
        sixSeen();
        quickByFlights();
        noneFits();
        watchOfFew();
        watchOfAll();
        paysOfNoneAndAll();
        paysOfLikeOnes();
        paysOfEach();
        exactOfNoEvening();
        exactOfEach();
        emptyBook();
        fifteenEntries();
        wrongIsTheFirst();
        torn();
        CHECK.end();
    }

    private static void quick(Play x, int howMany, int least, int greatest, int watch) {
        CHECK.due("quick(0)", x.quick(0), howMany);
        CHECK.due("quick(1)", x.quick(1), least);
        CHECK.due("quick(2)", x.quick(2), greatest);
        CHECK.due("watch()", x.watch(), watch);
    }

    private static void nothingSeen() {
        CHECK.about("3: QUICK, WATCH of nothing SEEN: an unknown R (1 .. 40)");
        quick(new Play(), 40, 1, 40, 20);
        quick(Check.of("n2;k0 7;"), 40, 1, 40, 20);
        CHECK.due("seen", new Play().told(12), 0);
    }

    private static void sixSeen() {
        CHECK.about("3: SEEN (6 at most)");
        Play x = new Play();
        int[] flights = {40, 39, 30, 0, 1, 20};
        boolean[] over = {true, true, true, false, false, false};
        int[][] due = {{40, 1, 40, 20}, {39, 1, 39, 19}, {30, 1, 30, 15}, {30, 1, 30, 15}, {29, 2, 30, 15}, {10, 21, 30, 25}};
        for (int i = 0; i < 6; i++) {
            CHECK.due("see()", x.see(flights[i], over[i]), i + 1);
            CHECK.due("seen", x.told(12), i + 1);
            quick(x, due[i][0], due[i][1], due[i][2], due[i][3]);
        }
        CHECK.due("a seventh", x.see(25, true), Check.FULL);
        CHECK.due("seen", x.told(12), 6);
        quick(x, 10, 21, 30, 25);
    }

    private static void quickByFlights() {
        CHECK.about("3: one came by a FLIGHT of f (0 .. 40), or did not");
        for (int f = 0; f <= 40; f++) {
            Play over = new Play();
            over.see(f, true);
            quick(over, f, f == 0 ? NONE : 1, f == 0 ? NONE : f, f < 2 ? NONE : f / 2);
            Play not = new Play();
            not.see(f, false);
            int fitting = 40 - f;
            quick(not, fitting, fitting == 0 ? NONE : f + 1, fitting == 0 ? NONE : 40, fitting < 2 ? NONE : f + fitting / 2);
        }
    }

    private static void noneFits() {
        CHECK.about("3: QUICK: how many; the least; the greatest; NONE (R that none fits)");
        for (int f = 0; f <= 40; f++) {
            Play x = new Play();
            x.see(f, true);
            x.see(f, false);
            quick(x, 0, NONE, NONE, NONE);
            x.see(40, true);
            x.see(0, false);
            quick(x, 0, NONE, NONE, NONE);
            x.tear();
            quick(x, 40, 1, 40, 20);
        }
        for (int apart = 0; apart <= 40; apart++) {
            Play x = new Play();
            x.see(apart, false);
            x.see(0, true);
            quick(x, 0, NONE, NONE, NONE);
            Play y = new Play();
            y.see(apart, true);
            y.see(40, false);
            quick(y, 0, NONE, NONE, NONE);
        }
    }

    private static void watchOfFew() {
        CHECK.about("3: WATCH: NONE: none parts them");
        for (int r = 1; r <= 40; r++) {
            Play one = new Play();
            one.see(r, true);
            one.see(r - 1, false);
            quick(one, 1, r, r, NONE);
        }
        for (int r = 1; r <= 39; r++) {
            Play two = new Play();
            two.see(r + 1, true);
            two.see(r - 1, false);
            quick(two, 2, r, r + 1, r);
        }
        for (int r = 1; r <= 38; r++) {
            Play three = new Play();
            three.see(r + 2, true);
            three.see(r - 1, false);
            quick(three, 3, r, r + 2, r);
        }
    }

    private static void watchOfAll() {
        CHECK.about("3: WATCH: the greatest part that is alike is least; of like ones the least");
        for (int least = 1; least <= 40; least++) {
            for (int greatest = least + 1; greatest <= 40; greatest++) {
                Play x = new Play();
                x.see(least - 1, false);
                x.see(greatest, true);
                int best = NONE;
                int bestPart = 41;
                for (int f = 40; f >= 0; f--) {
                    int over = Math.max(0, Math.min(greatest, f) - least + 1);
                    int part = Math.max(over, greatest - least + 1 - over);
                    if (part <= bestPart) {
                        best = f;
                        bestPart = part;
                    }
                }
                CHECK.due("watch() of " + least + " to " + greatest, x.watch(), best);
            }
        }
    }

    private static void paysOfNoneAndAll() {
        CHECK.about("3: PAYS: of 0 to 30 LEAPS, q of 0 and of 100");
        for (int v : new int[] {1, 2, 50, 98, 99}) {
            Play x = new Play();
            CHECK.due("pays(" + v + ", 0)", x.pays(v, 0), 0);
            CHECK.due("pays(" + v + ", 1)", x.pays(v, 1), 1);
            CHECK.due("pays(" + v + ", 96)", x.pays(v, 96), 24);
            CHECK.due("pays(" + v + ", 97)", x.pays(v, 97), 30);
            CHECK.due("pays(" + v + ", 99)", x.pays(v, 99), 30);
            CHECK.due("pays(" + v + ", 100)", x.pays(v, 100), 30);
        }
    }

    private static void paysOfLikeOnes() {
        CHECK.about("3: PAYS: of like ones the fewest");
        Play x = new Play();
        CHECK.due("pays(1, 50): 1 like 2", x.pays(1, 50), 1);
        CHECK.due("pays(1, 75): 3 like 4", x.pays(1, 75), 3);
        CHECK.due("pays(99, 80): 4 like 5", x.pays(99, 80), 4);
        CHECK.due("pays(7, 51)", x.pays(7, 51), 2);
        CHECK.due("pays(7, 49)", x.pays(7, 49), 1);
        CHECK.due("pays(7, 76)", x.pays(7, 76), 4);
        CHECK.due("pays(7, 74)", x.pays(7, 74), 3);
    }

    private static void paysOfEach() {
        CHECK.about("3: PAYS: the number times v, times a BILLION times q / 100 each (cut), is most");
        for (int q = 0; q <= 100; q++) {
            BigInteger odds = BigInteger.valueOf(1000000000);
            BigInteger most = BigInteger.ZERO;
            int best = 0;
            for (int n = 1; n <= 30; n++) {
                odds = odds.multiply(BigInteger.valueOf(q)).divide(BigInteger.valueOf(100));
                BigInteger paid = odds.multiply(BigInteger.valueOf(n * 99L));
                if (paid.compareTo(most) > 0) {
                    most = paid;
                    best = n;
                }
            }
            CHECK.due("pays(99, " + q + ")", new Play().pays(99, q), best);
            CHECK.due("pays(1, " + q + ")", new Play().pays(1, q), best);
        }
    }

    private static void exactOfNoEvening() {
        CHECK.about("3: EXACT: 0 and 60 evenings, q of 0 and of 100");
        for (int q = 0; q <= 100; q++) {
            CHECK.due("exact(0, " + q + ")", new Play().exact(0, q), 1000000000);
            CHECK.due("exact(1, " + q + ")", new Play().exact(1, q), 10000000L * q);
        }
        CHECK.due("exact(60, 0)", new Play().exact(60, 0), 0);
        CHECK.due("exact(60, 100)", new Play().exact(60, 100), 1000000000);
        CHECK.due("exact(4, 1)", new Play().exact(4, 1), 10);
        CHECK.due("exact(5, 1)", new Play().exact(5, 1), 0);
    }

    private static void exactOfEach() {
        CHECK.about("3: EXACT: a BILLION times q / 100 each (cut)");
        for (int q = 0; q <= 100; q++) {
            BigInteger odds = BigInteger.valueOf(1000000000);
            Play x = new Play();
            for (int n = 0; n <= 60; n++) {
                CHECK.due("exact(" + n + ", " + q + ")", x.exact(n, q), odds.longValue());
                odds = odds.multiply(BigInteger.valueOf(q)).divide(BigInteger.valueOf(100));
            }
        }
    }

    private static void emptyBook() {
        CHECK.about("3: THE BOOK: WRONG: NONE");
        CHECK.due("judge() without a town", new Play().judge(), NONE);
        Play x = Check.of("n3;b0 1 9 0;k0 9;j0 0;");
        CHECK.due("judge() of an empty book", x.judge(), NONE);
        x.write(0, 0);
        CHECK.due("judge() of one that is right", x.judge(), NONE);
    }

    private static void fifteenEntries() {
        CHECK.about("3: THE BOOK (15 at most)");
        for (int wrong = 0; wrong <= 15; wrong++) {
            Play x = Check.of("n3;b0 1 9 0;k0 9;j0 0;j0 2;");
            for (int i = 0; i < 15; i++) {
                int j = i % 2;
                CHECK.due("write()", x.write(j, i == wrong ? 1 : 2 * j), i + 1);
                CHECK.due("entries", x.told(13), i + 1);
            }
            CHECK.due("judge()", x.judge(), wrong == 15 ? NONE : wrong);
            CHECK.due("a sixteenth", x.write(0, 1), Check.FULL);
            CHECK.due("entries", x.told(13), 15);
            CHECK.due("judge()", x.judge(), wrong == 15 ? NONE : wrong);
        }
    }

    private static void wrongIsTheFirst() {
        CHECK.about("3: WRONG: the first that is otherwise now");
        Play x = Check.of("n2;b0 1 9 0;k0 9;j0 0;j0 0;j0 0;j0 0;j0 0;j0 0;");
        for (int i = 0; i < 6; i++) {
            x.write(i, 0);
        }
        for (int i = 5; i >= 0; i--) {
            x.leap(i, 0);
            CHECK.due("judge() behind a leap of " + i, x.judge(), i);
        }
        for (int i = 0; i < 5; i++) {
            x.leap(i, 0);
            CHECK.due("judge() behind a leap back of " + i, x.judge(), i + 1);
        }
        x.leap(5, 0);
        CHECK.due("judge() of all at home", x.judge(), NONE);
        CHECK.due("entries stay", x.told(13), 6);
    }

    private static void torn() {
        CHECK.about("30: Nothing SEEN, THE BOOK is empty: how much both had");
        for (int seen = 0; seen <= 6; seen += 3) {
            for (int entries = 0; entries <= 15; entries += 5) {
                Play x = Check.of("n2;j0 0;");
                x.hour(1);
                String before = Picture.of(x);
                for (int i = 0; i < seen; i++) {
                    x.see(7, true);
                }
                for (int i = 0; i < entries; i++) {
                    x.write(0, 1);
                }
                CHECK.due("tear()", x.tear(), seen + entries);
                CHECK.holds("tear() changes something else, or leaves something", Picture.of(x).equals(before));
                CHECK.due("tear() again", x.tear(), 0);
                CHECK.due("see() is the first", x.see(1, true), 1);
                CHECK.due("write() is the first", x.write(0, 0), 1);
            }
        }
    }
}
