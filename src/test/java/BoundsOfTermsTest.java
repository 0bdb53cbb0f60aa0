/** 'Terms': the refusals and their order, of several the first; what is refused changes nothing; numbers from 0 on. */
public final class BoundsOfTermsTest {
    private static final Check CHECK = new Check("BoundsOfTermsTest");
    private static final int UNKNOWN = Check.UNKNOWN, OUTSIDE = Check.OUTSIDE;
    private static final int NOT = Check.NOT, FULL = Check.FULL;
    private static final int[] NO_NUMBERS = {Integer.MIN_VALUE, -2, -1, 8, 9, Integer.MAX_VALUE};

    public static void main(String[] args) {
        refusals();
        asItComes();
        unknownAheadOfOutside();
        unknownAheadOfNot();
        unknownAheadOfFull();
        outsideAheadOfNot();
        outsideAheadOfFull();
        notAheadOfFull();
        refusedIsNotToBeUndone();
        refusedKeepsWhatCanBeUndone();
        twice();
        setsOfBits();
        CHECK.end();
    }

    /** Bridge 1 has no keeper, keeper 1 is the one of bridge 0, keeper 0 at none. */
    private static Play town() {
        Play x = Check.of("n3;b0 1 9 0;b1 2 9 0;k0 5;k0 1;j0 0;j1 2;");
        x.rest(0);
        x.rest(1);
        x.post(1, 0);
        return x;
    }

    private static void refusals() {
        CHECK.about("NONE is -1. REFUSALS: -1000000001 and on");
        CHECK.due("NONE", LateBridges.NONE, -1);
        CHECK.due("UNKNOWN", LateBridges.UNKNOWN, -1000000001);
        CHECK.due("OUTSIDE", LateBridges.OUTSIDE, -1000000002);
        CHECK.due("NOT", LateBridges.NOT, -1000000003);
        CHECK.due("FULL", LateBridges.FULL, -1000000004);
    }

    private static void asItComes() {
        CHECK.about("What has a number has it from 0 on, as it comes");
        int[][] bridges = {{7, 0, 2, 99}, {0, 1, 40, 0}, {3, 1, 30, 1}, {1, 7, 21, 2}, {5, 6, 3, 50}, {6, 4, 22, 98},
            {2, 7, 33, 10}, {4, 2, 9, 9}, {3, 0, 39, 7}};
        int[][] keepers = {{3, 40}, {0, 1}, {2, 2}, {1, 39}, {1, 20}, {0, 21}, {3, 3}, {2, 30}, {1, 10}};
        int[][] jumpers = {{3, 7}, {0, 6}, {2, 1}, {1, 0}, {1, 5}, {2, 4}};
        StringBuilder text = new StringBuilder("n8;");
        for (int i = 0; i < 9; i++) {
            int[] b = bridges[i];
            text.append('b').append(b[0]).append(' ').append(b[1]).append(' ').append(b[2]).append(' ').append(b[3]).append(';');
            text.append('k').append(keepers[i][0]).append(' ').append(keepers[i][1]).append(';');
            if (i < 6) {
                text.append('j').append(jumpers[i][0]).append(' ').append(jumpers[i][1]).append(';');
            }
        }
        Play x = Check.of(text.toString());
        for (int i = 0; i < 9; i++) {
            for (int what = 0; what < 4; what++) {
                CHECK.due("bridge(" + i + ", " + what + ")", x.bridge(i, what), bridges[i][what]);
            }
            CHECK.due("keeper(" + i + ", 0)", x.keeper(i, 0), keepers[i][0]);
            CHECK.due("keeper(" + i + ", 1)", x.keeper(i, 1), keepers[i][1]);
        }
        for (int j = 0; j < 6; j++) {
            CHECK.due("jumper(" + j + ", 0)", x.jumper(j, 0), jumpers[j][0]);
            CHECK.due("jumper(" + j + ", 1)", x.jumper(j, 1), jumpers[j][1]);
        }
    }

    private static void unknownAheadOfOutside() {
        CHECK.about("of several the first: UNKNOWN ahead of OUTSIDE");
        for (int n : NO_NUMBERS) {
            for (int what : new int[] {Integer.MIN_VALUE, -1, 6, Integer.MAX_VALUE}) {
                CHECK.refused("bridge(" + n + ", " + what + ")", town(), x -> x.bridge(n, what), UNKNOWN);
                CHECK.refused("keeper(" + n + ", " + what + ")", town(), x -> x.keeper(n, what), UNKNOWN);
                CHECK.refused("jumper(" + n + ", " + what + ")", town(), x -> x.jumper(n, what), UNKNOWN);
                CHECK.refused("way(" + n + ", 0, " + what + ")", town(), x -> x.way(n, 0, what), UNKNOWN);
                CHECK.refused("way(0, " + n + ", " + what + ")", town(), x -> x.way(0, n, what), UNKNOWN);
                CHECK.refused("safest(" + n + ", 0, " + what + ")", town(), x -> x.safest(n, 0, what), UNKNOWN);
                CHECK.refused("safest(0, " + n + ", " + what + ")", town(), x -> x.safest(0, n, what), UNKNOWN);
            }
            for (int doubt : new int[] {Integer.MIN_VALUE, -1, 31, Integer.MAX_VALUE}) {
                CHECK.refused("talk(" + n + ", " + doubt + ")", town(), x -> x.talk(n, doubt), UNKNOWN);
            }
        }
        CHECK.refused("bridge(0, 6)", town(), x -> x.bridge(0, 6), OUTSIDE);
        CHECK.refused("talk(0, 31)", town(), x -> x.talk(0, 31), OUTSIDE);
    }

    private static void unknownAheadOfNot() {
        CHECK.about("of several the first: UNKNOWN ahead of NOT");
        for (int n : NO_NUMBERS) {
            CHECK.refused("leap(" + n + ", 1)", town(), x -> x.leap(n, 1), UNKNOWN);
            CHECK.refused("leap(0, " + n + ")", town(), x -> x.leap(0, n), UNKNOWN);
            CHECK.refused("post(" + n + ", 0) where somebody is", town(), x -> x.post(n, 0), UNKNOWN);
            CHECK.refused("post(0, " + n + ")", town(), x -> x.post(0, n), UNKNOWN);
            CHECK.refused("rest(" + n + ")", town(), x -> x.rest(n), UNKNOWN);
            CHECK.refused("train(" + n + ")", town(), x -> x.train(n), UNKNOWN);
            CHECK.refused("tires(" + n + ", 1) where nobody is", town(), x -> x.tires(n, 1), UNKNOWN);
            CHECK.refused("tires(0, " + n + ")", town(), x -> x.tires(0, n), UNKNOWN);
            CHECK.refused("goBack(" + n + ")", town(), x -> x.goBack(n), UNKNOWN);
        }
        CHECK.refused("leap(0, 1)", town(), x -> x.leap(0, 1), NOT);
        CHECK.refused("post(0, 0)", town(), x -> x.post(0, 0), NOT);
        CHECK.refused("rest(0)", town(), x -> x.rest(0), NOT);
        CHECK.refused("train(1)", town(), x -> x.train(1), NOT);
        CHECK.refused("tires(0, 1)", town(), x -> x.tires(0, 1), NOT);
        CHECK.refused("goBack(0)", town(), x -> x.goBack(0), NOT);
    }

    private static void unknownAheadOfFull() {
        CHECK.about("of several the first: UNKNOWN ahead of FULL");
        Play x = town();
        for (int i = 0; i < 15; i++) {
            x.write(0, 0);
        }
        for (int n : NO_NUMBERS) {
            CHECK.refused("write(" + n + ", 0) when full", x.like(), y -> y.write(n, 0), UNKNOWN);
            CHECK.refused("write(0, " + n + ") when full", x.like(), y -> y.write(0, n), UNKNOWN);
        }
        CHECK.refused("write(0, 0) when full", x, y -> y.write(0, 0), FULL);
    }

    private static void outsideAheadOfNot() {
        CHECK.about("of several the first: OUTSIDE ahead of NOT");
        for (int n : new int[] {Integer.MIN_VALUE, -1, 0, 61, Integer.MAX_VALUE}) {
            CHECK.refused("hour(" + n + ") without a town", new Play(), x -> x.hour(n), OUTSIDE);
            CHECK.refused("drift(" + n + ") without a town", new Play(), x -> x.drift(n), OUTSIDE);
        }
        CHECK.refused("hour(1) without a town", new Play(), x -> x.hour(1), NOT);
        CHECK.refused("drift(60) without a town", new Play(), x -> x.drift(60), NOT);
    }

    private static void outsideAheadOfFull() {
        CHECK.about("of several the first: OUTSIDE ahead of FULL");
        Play letters = new Play().tell("n2;" + " ".repeat(237));
        Play seen = new Play();
        for (int i = 0; i < 6; i++) {
            seen.see(20, true);
        }
        Play late = late();
        for (int n : new int[] {Integer.MIN_VALUE, -1, 256, Integer.MAX_VALUE}) {
            CHECK.refused("feed(" + n + ") when full", letters.like(), x -> x.feed(n), OUTSIDE);
            CHECK.refused("see(" + n + ") when full", seen.like(), x -> x.see(n, true), OUTSIDE);
            CHECK.refused("hour(" + n + ") above 9000", late.like(), x -> x.hour(n), OUTSIDE);
            CHECK.refused("drift(" + n + ") above 9000", late.like(), x -> x.drift(n), OUTSIDE);
        }
        CHECK.refused("see(41) when full", seen.like(), x -> x.see(41, false), OUTSIDE);
        CHECK.refused("hour(0) above 9000", late.like(), x -> x.hour(0), OUTSIDE);
        CHECK.refused("drift(61) above 9000", late.like(), x -> x.drift(61), OUTSIDE);
        CHECK.refused("feed(32) when full", letters.like(), x -> x.feed(32), FULL);
        CHECK.refused("see(40) when full", seen.like(), x -> x.see(40, false), FULL);
        CHECK.refused("hour(1) above 9000", late.like(), x -> x.hour(1), FULL);
        CHECK.refused("drift(60) above 9000", late.like(), x -> x.drift(60), FULL);
    }

    private static Play late() {
        Play x = Check.of("n2;");
        for (int i = 0; i < 151; i++) {
            x.hour(60);
        }
        return x;
    }

    /** No run has both: without a town HOURS are 0. */
    private static void notAheadOfFull() {
        CHECK.about("NOT ahead of FULL");
        Play x = late();
        x.town();
        CHECK.due("hours without a town", x.told(5), 0);
        CHECK.refused("hour(1)", x.like(), y -> y.hour(1), NOT);
        CHECK.refused("drift(1)", x.like(), y -> y.drift(1), NOT);
    }

    private static void refusedIsNotToBeUndone() {
        CHECK.about("What is refused changes nothing: it is not kept to be undone");
        Play x = town();
        x.talk(0, 9);
        int undone = x.told(14);
        x.leap(9, 0);
        x.leap(0, 1);
        x.post(0, 0);
        x.rest(0);
        x.train(1);
        x.talk(0, 31);
        x.hour(0);
        x.drift(61);
        CHECK.due("what can be undone", x.told(14), undone);
        CHECK.due("doubt", x.jumper(0, 2), 9);
        CHECK.due("undo()", x.undo(), undone - 1);
        CHECK.due("doubt as ahead of talk()", x.jumper(0, 2), 0);
    }

    private static void refusedKeepsWhatCanBeUndone() {
        CHECK.about("What is refused changes nothing: keep() and goBack() refused leave what can be undone");
        Play x = town();
        x.keep(0);
        x.talk(0, 9);
        x.keep(2);
        x.keep(-1);
        x.goBack(1);
        x.goBack(2);
        CHECK.due("what can be undone", x.told(14), 1);
        CHECK.due("undo()", x.undo(), 0);
        CHECK.due("doubt", x.jumper(0, 2), 0);
    }

    private static void twice() {
        CHECK.about("UNKNOWN: one twice, where two are asked");
        for (int n = 2; n <= 8; n++) {
            for (int place = 0; place < n; place++) {
                int one = place;
                int other = place == 0 ? n - 1 : place - 1;
                Play x = Check.of("n" + n + ";b0 " + (n - 1) + " 9 0;");
                CHECK.refused("parted() of " + one + " twice", x, y -> y.parted(one, one), UNKNOWN);
                CHECK.holds("parted() of two", x.parted(one, other) >= 0);
            }
        }
    }

    private static void setsOfBits() {
        CHECK.about("A SET is a whole number, bit k for k");
        Play x = Check.of("n8;b0 1 9 0;b0 2 9 0;b0 3 9 0;b0 4 9 0;b0 5 9 0;b0 6 9 0;b0 7 9 0;b1 2 9 0;b1 3 9 0;"
            + "k0 1;k0 1;k0 1;k0 1;k0 1;k0 1;k0 1;k0 1;k0 1;j0 0;j0 0;j0 0;j0 0;j0 0;j0 0;");
        CHECK.due("all nine are dared", x.jumper(5, 5), 511);
        for (int b = 0; b < 9; b++) {
            Play y = x.like();
            y.rest(b);
            CHECK.due("all but " + b, y.jumper(0, 5), 511 - (1 << b));
        }
        for (int j = 0; j < 6; j++) {
            Play y = x.like();
            y.leap(j, 0);
            CHECK.due("trust in " + j, y.told(9), 1 << j);
        }
        for (int j = 0; j < 6; j++) {
            x.leap(j, j);
        }
        CHECK.due("trust in all six", x.told(9), 63);
        CHECK.due("no bottles among 0 to 3, but 3, 4, 5, 6", x.told(7), 120);
        CHECK.due("parted(0, 7): its bridge alone", x.parted(0, 7), 64);
    }
}
