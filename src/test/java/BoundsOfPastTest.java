import java.math.BigInteger;

/** Section 3 and promises 17, 18, 32 to 34: the seed and its draws, what is undone, the images, on their bounds. */
public final class BoundsOfPastTest {
    private static final Check CHECK = new Check("BoundsOfPastTest");
    private static final int NONE = Check.NONE, NOT = Check.NOT;
    private static final BigInteger TIMES = BigInteger.valueOf(1103515245), AND = BigInteger.valueOf(12345);
    private static final BigInteger LEFT_OVER_BY = BigInteger.TWO.pow(31);
    private static final String TOWN = "n4;b0 1 9 30;b1 2 9 0;b2 3 9 99;b3 0 9 50;k0 5;k1 7;k2 3;j0 0;j1 0;j2 2;j3 3;";

    public static void main(String[] args) {
        seedIsLeftOver();
        noDraws();
        drawOfEachJumperAndBridge();
        onlyWhereTheJumperIs();
        lessThanQ();
        jamWithoutAKeeper();
        jamOfTheMostTired();
        leapOfADraw();
        aheadOfEachHour();
        sixteenCanBeUndone();
        undoneAndDoneAgain();
        eachIsUndone();
        eachKeeperAndJumperIsUndone();
        notUndone();
        seedStays();
        imagesThatWereNotKept();
        imagesKeepSectionTwoAndTheSeed();
        nothingToUndoBehindImages();
        imagesAndTowns();
        CHECK.end();
    }

    private static int next(int seed) {
        return BigInteger.valueOf(seed).multiply(TIMES).add(AND).mod(LEFT_OVER_BY).intValueExact();
    }

    private static int before(int seed) {
        return BigInteger.valueOf(seed).subtract(AND).multiply(TIMES.modInverse(LEFT_OVER_BY)).mod(LEFT_OVER_BY).intValueExact();
    }

    /** The seed from which the third draw is made by another. */
    private static int threeBefore(int seed) {
        return before(before(before(seed)));
    }

    private static void seedIsLeftOver() {
        CHECK.about("3: THE SEED (0 at first: each DRAW it becomes it times 1103515245 and 12345, left over by 2 to the 31)");
        CHECK.due("the seed at first", Check.of(TOWN).seed(1), 0);
        for (int last : new int[] {0, 1, 2, 65535, 65536, 1073741823, 1073741824, 2147483646, 2147483647}) {
            Play x = Check.of(TOWN);
            x.seed(threeBefore(last));
            x.drift(1);
            CHECK.due("the seed behind three draws", x.seed(0), last);
        }
        for (int first : new int[] {0, 1, 2, 1948, 2147483646, 2147483647}) {
            Play x = Check.of(TOWN);
            x.seed(first);
            x.drift(1);
            CHECK.due("the seed behind three draws from " + first, x.seed(0), next(next(next(first))));
        }
        CHECK.due("a draw by hand, not left over", next(0), 12345);
        CHECK.due("a draw by hand, left over once", next(2), 2L * 1103515245L + 12345L - 2147483648L);
        Play long60 = Check.of(TOWN);
        int seed = 0;
        for (int i = 0; i < 180; i++) {
            seed = next(seed);
        }
        long60.drift(60);
        CHECK.due("the seed behind sixty hours", long60.seed(0), seed);
    }

    private static void noDraws() {
        CHECK.about("3: BY DRAWS: ahead of each, if there are JUMPERS and BRIDGES");
        for (String text : new String[] {"n2;", "n2;k0 1;", "n2;j0 0;k0 1;", "n2;b0 1 9 0;k0 1;"}) {
            Play x = Check.of(text);
            x.seed(7);
            CHECK.due("drift(60) of " + text, x.drift(60), 60);
            CHECK.due("no leaps", x.told(11), 0);
            CHECK.due("no draws", x.seed(0), 7);
        }
        Play x = Check.of("n2;j0 0;b0 1 9 0;");
        x.seed(7);
        x.drift(1);
        CHECK.due("three draws without keepers", x.seed(0), next(next(next(7))));
        CHECK.due("a leap", x.told(11), 1);
    }

    /** All are where all bridges are: so each hour has a leap, by whom and over which the roll tells. */
    private static void drawOfEachJumperAndBridge() {
        CHECK.about("3: the DRAW of n is it / 65536, left over by n: of JUMPERS, of BRIDGES");
        for (int jumpers = 1; jumpers <= 6; jumpers++) {
            for (int bridges = 1; bridges <= 7; bridges++) {
                StringBuilder text = new StringBuilder("n8;");
                for (int b = 1; b <= bridges; b++) {
                    text.append("b0 ").append(b).append(" 2 0;");
                }
                Play x = Check.of(text + "j0 0;".repeat(jumpers));
                x.seed(1000 * jumpers + bridges);
                int seed = 1000 * jumpers + bridges;
                for (int hour = 0; hour < 20; hour++) {
                    x.drift(1);
                    int first = next(seed);
                    int second = next(first);
                    seed = next(second);
                    CHECK.due("the jumper of " + jumpers, x.roll(0, 1), first / 65536 % jumpers);
                    CHECK.due("the bridge of " + bridges, x.roll(0, 2), second / 65536 % bridges);
                }
            }
        }
        int[] bounds = {0, 65535, 65536, 2147418111, 2147418112, 2147483647};
        for (int first : bounds) {
            Play x = Check.of("n8;b0 1 2 0;b0 2 2 0;b0 3 2 0;b0 4 2 0;b0 5 2 0;b0 6 2 0;b0 7 2 0;" + "j0 0;".repeat(6));
            x.seed(before(first));
            x.drift(1);
            CHECK.due("the jumper by " + first, x.roll(0, 1), first / 65536 % 6);
            x.seed(before(before(first)));
            x.drift(1);
            CHECK.due("the bridge by " + first, x.roll(0, 2), first / 65536 % 7);
        }
    }

    private static void onlyWhereTheJumperIs() {
        CHECK.about("3: BY DRAWS: if the BRIDGE is where the JUMPER is");
        for (int place = 0; place < 3; place++) {
            Play x = Check.of("n3;b0 1 9 50;k0 9;j0 " + place + ";");
            CHECK.due("drift(20)", x.drift(20), 20);
            CHECK.due("leaps of one in " + place, x.told(11), place == 2 ? 0 : 20);
            CHECK.due("over and dried", x.jumper(0, 3) + x.jumper(0, 4), place == 2 ? 0 : 20);
        }
        Play away = Check.of("n3;b0 1 9 99;k0 9;j1 2;");
        away.talk(0, 9);
        away.drift(1);
        CHECK.due("nothing but an hour: doubt", away.jumper(0, 2), 8);
        CHECK.due("nothing but an hour: tired", away.keeper(0, 3), 0);
        CHECK.due("but three draws", away.seed(0), next(next(next(0))));
    }

    /** One jumper and one bridge: the third draw alone tells whether the chain jams. */
    private static void lessThanQ() {
        CHECK.about("3: BY DRAWS: DRIED, if the last DRAW is less than Q");
        for (int last = 0; last <= 99; last++) {
            int seed = threeBefore(last * 65536);
            for (int q = Math.max(0, last - 1); q <= Math.min(99, last + 2); q++) {
                Play x = drawn(q, seed);
                CHECK.due("over: draw " + last + ", Q " + q, x.jumper(0, 3), last < q ? 0 : 1);
                CHECK.due("dried: draw " + last + ", Q " + q, x.jumper(0, 4), last < q ? 1 : 0);
                CHECK.due("place: draw " + last + ", Q " + q, x.jumper(0, 1), last < q ? 0 : 1);
                CHECK.due("roll: draw " + last + ", Q " + q, x.roll(0, 3), last < q ? 0 : 1);
            }
            CHECK.due("Q 0 never jams", drawn(0, seed).jumper(0, 3), 1);
            CHECK.due("Q 99 jams but at 99", drawn(99, seed).jumper(0, 3), last == 99 ? 1 : 0);
        }
        CHECK.due("a draw of 100 is one of 0", drawn(1, threeBefore(100 * 65536)).jumper(0, 4), 1);
        CHECK.due("32767 left over by 100 is 67", drawn(68, threeBefore(2147483647)).jumper(0, 4), 1);
        CHECK.due("67 is not less than 67", drawn(67, threeBefore(2147483647)).jumper(0, 4), 0);
    }

    private static Play drawn(int q, int seed) {
        Play x = Check.of("n2;b0 1 9 " + q + ";k0 9;j0 0;");
        x.seed(seed);
        x.drift(1);
        return x;
    }

    private static void jamWithoutAKeeper() {
        CHECK.about("3: BY DRAWS: the KEEPER, if any, TIRED as told");
        for (int last : new int[] {0, 99}) {
            Play x = Check.of("n2;b0 1 9 50;k0 9;k0 9;j0 0;");
            x.rest(0);
            x.seed(threeBefore(last * 65536));
            CHECK.due("drift(1)", x.drift(1), 1);
            CHECK.due("dried where nobody is", x.jumper(0, 4), 1);
            CHECK.due("doubt of 2", x.jumper(0, 2), 2);
            CHECK.due("nobody is tired", x.keeper(0, 3) + x.keeper(1, 3), 0);
        }
        Play x = Check.of("n2;b0 1 9 50;k0 9;j0 0;");
        x.leap(0, 0);
        x.leap(0, 0);
        x.seed(threeBefore(0));
        x.drift(1);
        CHECK.due("2, 1 more by the jam, 1 less by the hour", x.keeper(0, 3), 2);
        CHECK.due("dried", x.jumper(0, 4), 1);
    }

    private static void jamOfTheMostTired() {
        CHECK.about("3: BY DRAWS: DRIED as told: TIRED 99, DOUBT 30 at most, ROLL");
        Play x = Check.of("n2;b0 1 9 50;k0 9;j0 0;");
        for (int i = 0; i < 99; i++) {
            x.leap(0, 0);
        }
        x.talk(0, 29);
        x.seed(threeBefore(49 * 65536));
        x.drift(1);
        CHECK.due("99, no more by the jam, 1 less by the hour", x.keeper(0, 3), 98);
        CHECK.due("doubt of 30, even", x.jumper(0, 2), 30);
        CHECK.due("roll", x.roll(0, 3), 0);
        CHECK.due("roll's hour is the one ahead", x.roll(0, 0), 0);
        CHECK.due("over 99 times", x.jumper(0, 3), 99);
        CHECK.due("dried once", x.jumper(0, 4), 1);
    }

    private static void leapOfADraw() {
        CHECK.about("3: BY DRAWS: else a LEAP as above");
        for (int need = 8; need <= 10; need++) {
            Play x = Check.of("n2;b0 1 9 50;k0 " + need + ";j0 1;");
            x.talk(0, 8);
            x.seed(threeBefore(50 * 65536));
            x.drift(1);
            boolean over = need <= 9;
            CHECK.due("place by time " + need, x.jumper(0, 1), over ? 0 : 1);
            CHECK.due("doubt of 7 is one less, of 10 not", x.jumper(0, 2), over ? 6 : 10);
            CHECK.due("roll", x.roll(0, 3), over ? 1 : 0);
        }
    }

    private static void aheadOfEachHour() {
        CHECK.about("3: BY DRAWS: n HOURS: ahead of each");
        Play x = Check.of("n2;b0 1 9 0;k1 8;j0 0;");
        x.drift(5);
        CHECK.due("hours", x.told(5), 5);
        CHECK.due("leaps", x.told(11), 5);
        for (int i = 0; i < 5; i++) {
            CHECK.due("hour of " + i, x.roll(i, 0), 4 - i);
            CHECK.due("over in even hours, where a young one has 8", x.roll(i, 3), i % 2 == 0 ? 1 : 0);
        }
    }

    private static void sixteenCanBeUndone() {
        CHECK.about("3: UNDONE: 16 at most are kept, the oldest are lost");
        for (int done : new int[] {0, 1, 2, 15, 16, 17, 18, 31, 32, 33, 48, 100}) {
            Play x = Check.of(TOWN);
            for (int i = 1; i <= done; i++) {
                x.talk(0, i % 31);
                CHECK.due("can be undone", x.told(14), Math.min(16, i));
            }
            int kept = Math.min(16, done);
            for (int i = 1; i <= kept; i++) {
                CHECK.due("undo()", x.undo(), kept - i);
                CHECK.due("can be undone", x.told(14), kept - i);
                CHECK.due("doubt", x.jumper(0, 2), (done - i) % 31);
            }
            CHECK.refused("undo() of what is lost, " + done + " done", x, Play::undo, NOT);
        }
    }

    private static void undoneAndDoneAgain() {
        CHECK.about("3: UNDONE: the latest");
        Play x = Check.of(TOWN);
        for (int i = 1; i <= 16; i++) {
            x.talk(0, i);
        }
        for (int i = 0; i < 8; i++) {
            x.undo();
        }
        CHECK.due("doubt", x.jumper(0, 2), 8);
        for (int i = 1; i <= 12; i++) {
            x.talk(1, i);
        }
        CHECK.due("8 and 12 are 16 at most", x.told(14), 16);
        for (int i = 11; i >= 0; i--) {
            x.undo();
            CHECK.due("doubt of the second", x.jumper(1, 2), i);
        }
        for (int i = 7; i >= 4; i--) {
            CHECK.due("undo()", x.undo(), i - 4);
            CHECK.due("doubt of the first", x.jumper(0, 2), i);
        }
        CHECK.due("undo()", x.undo(), NOT);
        CHECK.due("doubt of the first", x.jumper(0, 2), 4);
    }

    private static void undone(String call, Play x, Check.Call made) {
        String section2 = Picture.ofSection2(x);
        int undone = x.like().told(14);
        int answer = made.on(x);
        CHECK.holds(call + " is refused", answer >= NONE);
        CHECK.due(call + ": can be undone", x.like().told(14), undone + 1);
        CHECK.holds(call + " changes nothing", !Picture.ofSection2(x).equals(section2));
        CHECK.due("undo() of " + call, x.undo(), undone);
        CHECK.holds(call + " is not undone", Picture.ofSection2(x).equals(section2));
    }

    private static void eachIsUndone() {
        CHECK.about("3: UNDONE: leap(), post(), rest(), train(), talk(), hour(), drift(): all of section 2 is as ahead of it");
        Play x = Check.of(TOWN);
        x.drift(25);
        x.talk(1, 3);
        undone("a leap over", at(x, 0), y -> y.leap(0, y.like().jumper(0, 1) <= 1 ? 0 : 1));
        undone("a leap dried", at(x, 3), y -> y.leap(3, 3));
        undone("post()", at(x, 0), y -> y.post(0, 3));
        undone("rest()", at(x, 0), y -> y.rest(1));
        undone("train()", at(x, 0), y -> y.train(2));
        undone("talk()", at(x, 0), y -> y.talk(2, 30));
        undone("hour(1)", at(x, 0), y -> y.hour(1));
        undone("hour(60)", at(x, 0), y -> y.hour(60));
        undone("drift(1)", at(x, 0), y -> y.drift(1));
        undone("drift(60)", at(x, 0), y -> y.drift(60));
    }

    private static void eachKeeperAndJumperIsUndone() {
        CHECK.about("3: UNDONE, IMAGES: all of section 2, of the ninth KEEPER and the sixth JUMPER too");
        Play x = Check.of("n2;b0 1 9 0;" + "k2 9;".repeat(9) + "j0 0;".repeat(6));
        for (int k = 0; k < 9; k++) {
            int keeper = k;
            undone("train(" + k + ")", x.like(), y -> y.train(keeper));
            Play posted = x.like();
            posted.rest(0);
            undone("post(" + k + ", 0)", posted, y -> y.post(keeper, 0));
            posted.post(k, 0);
            undone("rest(" + k + ")", posted, y -> y.rest(keeper));
            undone("a leap by which " + k + " is tired", posted, y -> y.leap(0, 0));
            comesBack(posted);
        }
        for (int j = 0; j < 6; j++) {
            int jumper = j;
            undone("talk(" + j + ", 30)", x.like(), y -> y.talk(jumper, 30));
            undone("a leap of " + j, x.like(), y -> y.leap(jumper, 0));
            Play rested = x.like();
            rested.rest(0);
            undone("a leap of " + j + " dried", rested, y -> y.leap(jumper, 0));
            rested.leap(j, 0);
            comesBack(rested);
        }
    }

    /** To an image, from all that is otherwise. */
    private static void comesBack(Play x) {
        String kept = Picture.ofSection2(x);
        x.keep(1);
        for (int k = 0; k < 9; k++) {
            x.train(k);
            x.rest(k);
            x.post(k, 0);
            x.leap(k % 6, 0);
            x.talk(k % 6, 20 + k);
        }
        x.hour(1);
        CHECK.due("goBack(1)", x.goBack(1), 1);
        CHECK.holds("the image is not what was kept", Picture.ofSection2(x).equals(kept));
    }

    /** A like object, jumper j in a place from which it can leap (0 or 3 have bridge 3). */
    private static Play at(Play x, int j) {
        Play y = x.like();
        for (int i = 0; i < 8 && y.like().jumper(j, 1) != 0 && y.like().jumper(j, 1) != 3; i++) {
            y.talk(j, 0);
            y.leap(j, y.like().way(j, 0, 1) == NONE ? 1 : y.like().way(j, 0, 1));
        }
        return y;
    }

    private static void notUndone() {
        CHECK.about("3: UNDONE: of leap(), post(), rest(), train(), talk(), hour(), drift() alone");
        Play x = Check.of(TOWN);
        x.talk(0, 5);
        x.see(3, true);
        x.write(0, 2);
        x.seed(9);
        x.tell("n3;");
        CHECK.due("undo() of talk()", x.undo(), 0);
        CHECK.due("doubt", x.jumper(0, 2), 0);
        CHECK.due("seen stays", x.told(12), 1);
        CHECK.due("quick() stays", x.quick(0), 3);
        CHECK.due("the book stays", x.told(13), 1);
        CHECK.due("judge() stays", x.judge(), 0);
        CHECK.due("letters stay", x.told(4), 3);
        CHECK.due("the seed stays", x.seed(9), 9);
        x.tear();
        CHECK.due("tear() is not undone", x.undo(), NOT);
    }

    private static void seedStays() {
        CHECK.about("3: UNDONE: THE SEED stays");
        Play x = Check.of(TOWN);
        x.seed(5);
        x.drift(1);
        int seed = next(next(next(5)));
        CHECK.due("undo()", x.undo(), 0);
        CHECK.due("hours", x.told(5), 0);
        CHECK.due("the seed behind undo()", x.like().seed(0), seed);
        x.drift(2);
        for (int i = 0; i < 6; i++) {
            seed = next(seed);
        }
        CHECK.due("the seed goes on", x.seed(0), seed);
    }

    private static void imagesThatWereNotKept() {
        CHECK.about("34: NOT: it was not kept");
        for (int i = 0; i <= 1; i++) {
            int other = 1 - i;
            Play x = Check.of(TOWN);
            x.drift(3);
            CHECK.refused("goBack(0) of none", x.like(), y -> y.goBack(0), NOT);
            CHECK.refused("goBack(1) of none", x.like(), y -> y.goBack(1), NOT);
            CHECK.due("keep()", x.keep(i), 1);
            x.drift(3);
            CHECK.refused("goBack() of the other", x, y -> y.goBack(other), NOT);
            CHECK.due("goBack()", x.goBack(i), 1);
            CHECK.due("hours", x.told(5), 3);
        }
    }

    private static void imagesKeepSectionTwoAndTheSeed() {
        CHECK.about("3: IMAGES 0, 1 keep all of section 2, THE SEED");
        Play x = Check.of(TOWN);
        x.seed(2147483647);
        String first = Picture.ofSection2(x);
        x.keep(0);
        x.drift(30);
        x.train(1);
        x.rest(2);
        x.post(2, 3);
        x.talk(2, 17);
        x.seed(0);
        String second = Picture.ofSection2(x);
        x.keep(1);
        x.drift(30);
        x.see(5, true);
        x.write(0, 3);
        for (int round = 0; round < 2; round++) {
            CHECK.due("goBack(0)", x.goBack(0), 1);
            CHECK.holds("image 0", Picture.ofSection2(x).equals(first));
            CHECK.due("its seed", x.seed(4), 2147483647);
            x.talk(0, 3);
            CHECK.due("goBack(1)", x.goBack(1), 1);
            CHECK.holds("image 1", Picture.ofSection2(x).equals(second));
            CHECK.due("its seed", x.seed(4), 0);
            x.hour(7);
        }
        CHECK.due("what is seen stays", x.told(12), 1);
        CHECK.due("the book stays", x.told(13), 1);
        CHECK.due("keep(0) anew", x.keep(0), 1);
        String third = Picture.ofSection2(x);
        x.hour(60);
        x.goBack(0);
        CHECK.holds("image 0 anew", Picture.ofSection2(x).equals(third));
        x.goBack(1);
        CHECK.holds("image 1 as it was", Picture.ofSection2(x).equals(second));
    }

    private static void nothingToUndoBehindImages() {
        CHECK.about("33, 34: nothing can be undone then");
        for (int done : new int[] {1, 16, 17}) {
            Play x = Check.of(TOWN);
            for (int i = 0; i < done; i++) {
                x.hour(1);
            }
            CHECK.due("keep(1)", x.keep(1), 1);
            CHECK.due("can be undone behind keep()", x.told(14), 0);
            CHECK.refused("undo() behind keep()", x, Play::undo, NOT);
            for (int i = 0; i < done; i++) {
                x.hour(1);
            }
            CHECK.due("can be undone", x.told(14), Math.min(16, done));
            CHECK.due("goBack(1)", x.goBack(1), 1);
            CHECK.due("can be undone behind goBack()", x.told(14), 0);
            CHECK.refused("undo() behind goBack()", x, Play::undo, NOT);
            x.hour(1);
            CHECK.due("undo() of what came later", x.undo(), 0);
            CHECK.due("hours", x.told(5), done);
        }
    }

    private static void imagesAndTowns() {
        CHECK.about("3 (promise): IMAGES, what could be undone are gone");
        Play x = Check.of(TOWN);
        x.keep(0);
        x.keep(1);
        x.hour(1);
        Play faulty = x.like();
        faulty.tell("x");
        faulty.town();
        CHECK.due("with a fault: undo()", faulty.undo(), 0);
        CHECK.due("with a fault: goBack(0)", faulty.goBack(0), 1);
        CHECK.due("with a fault: goBack(1)", faulty.goBack(1), 1);
        for (String text : new String[] {"", " ", "n2;", TOWN}) {
            Play y = x.like();
            y.tell(text);
            y.town();
            CHECK.refused("undo() behind town() of '" + text + "'", y, Play::undo, NOT);
            CHECK.refused("goBack(0) behind town() of '" + text + "'", y, z -> z.goBack(0), NOT);
            CHECK.refused("goBack(1) behind town() of '" + text + "'", y, z -> z.goBack(1), NOT);
        }
    }
}
