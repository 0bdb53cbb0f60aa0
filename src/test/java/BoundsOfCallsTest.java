/** Each promise with each refusal that it names: on the bound, next to it, far off; and nothing changes by it. */
public final class BoundsOfCallsTest {
    private static final Check CHECK = new Check("BoundsOfCallsTest");
    private static final int NONE = Check.NONE, UNKNOWN = Check.UNKNOWN, OUTSIDE = Check.OUTSIDE;
    private static final int NOT = Check.NOT, FULL = Check.FULL;
    private static final int LEAST = Integer.MIN_VALUE, MOST = Integer.MAX_VALUE;

    /** Nobody is at bridge 8; something can be undone, image 0 is kept, letters are fed. */
    private static final Play BIGGEST = done(Check.of(
        "n8;b0 1 9 0;b1 2 9 5;b2 3 9 10;b3 4 9 15;b4 5 9 20;b5 6 9 25;b6 7 9 30;b7 0 9 35;b0 2 9 40;"
        + "k0 5;k1 5;k2 5;k3 5;k0 6;k1 6;k2 6;k3 6;k0 7;j0 0;j1 0;j2 2;j3 3;j0 4;j1 5;"));
    private static final Play SMALLEST = done(Check.of("n2;b0 1 9 0;k0 5;j0 0;"));

    private interface Of {
        int on(Play x, int number);
    }

    public static void main(String[] args) {
        promises2To5();
        promises6To8();
        promises9And10();
        promise11();
        promise12();
        promises13And14();
        promise15();
        promises16And17();
        promise18();
        promises19And20();
        promises21To23();
        promises24And25();
        promises26To31();
        promises32To34();
        CHECK.end();
    }

    private static Play done(Play x) {
        x.leap(0, 0);
        x.hour(1);
        x.keep(0);
        x.seed(5);
        x.see(20, true);
        x.write(0, 1);
        x.drift(3);
        x.talk(0, 7);
        x.rest(8);
        return x.tell("n2;");
    }

    /** What has a number has it from 0 on: below there is none, nor from the size on. */
    private static void unknown(String call, Play town, Of of, int size) {
        for (int n : new int[] {LEAST, -2, -1, size, size + 1, MOST}) {
            CHECK.refused(call + " of " + n, town.like(), x -> of.on(x, n), UNKNOWN);
        }
        for (int n = 0; n < size; n++) {
            known(call, of.on(town.like(), n), n);
        }
    }

    private static void outside(String call, Play town, Of of, int least, int most) {
        for (int n : new int[] {LEAST, least - 1, most + 1, MOST}) {
            CHECK.refused(call + " of " + n, town.like(), x -> of.on(x, n), OUTSIDE);
        }
        for (int n = least; n <= most; n++) {
            known(call, of.on(town.like(), n), n);
        }
    }

    private static void known(String call, int answer, int n) {
        CHECK.holds(call + " of " + n + " answered " + answer, answer != UNKNOWN && answer != OUTSIDE);
    }

    private static void promises2To5() {
        CHECK.about("2: a number 0 .. 255: OUTSIDE");
        outside("feed", SMALLEST, Play::feed, 0, 255);
        CHECK.about("5: told 0 to 14: OUTSIDE");
        outside("told", SMALLEST, Play::told, 0, 14);
        outside("told without a town", new Play(), Play::told, 0, 14);
    }

    private static void promises6To8() {
        CHECK.about("6: UNKNOWN");
        unknown("bridge", BIGGEST, (x, n) -> x.bridge(n, 0), 9);
        unknown("bridge", SMALLEST, (x, n) -> x.bridge(n, 5), 1);
        unknown("bridge", new Play(), (x, n) -> x.bridge(n, 0), 0);
        CHECK.about("6: OUTSIDE");
        outside("bridge's what", BIGGEST, (x, n) -> x.bridge(8, n), 0, 5);
        CHECK.about("7: UNKNOWN");
        unknown("keeper", BIGGEST, (x, n) -> x.keeper(n, 0), 9);
        unknown("keeper", SMALLEST, (x, n) -> x.keeper(n, 4), 1);
        unknown("keeper", new Play(), (x, n) -> x.keeper(n, 0), 0);
        CHECK.about("7: OUTSIDE");
        outside("keeper's what", BIGGEST, (x, n) -> x.keeper(8, n), 0, 4);
        CHECK.about("8: UNKNOWN");
        unknown("jumper", BIGGEST, (x, n) -> x.jumper(n, 0), 6);
        unknown("jumper", SMALLEST, (x, n) -> x.jumper(n, 5), 1);
        unknown("jumper", new Play(), (x, n) -> x.jumper(n, 0), 0);
        CHECK.about("8: OUTSIDE");
        outside("jumper's what", BIGGEST, (x, n) -> x.jumper(5, n), 0, 5);
    }

    private static void promises9And10() {
        CHECK.about("9: UNKNOWN");
        unknown("flight's jumper", BIGGEST, (x, n) -> x.flight(n, 8), 6);
        unknown("flight's bridge", BIGGEST, (x, n) -> x.flight(5, n), 9);
        unknown("flight's jumper", SMALLEST, (x, n) -> x.flight(n, 0), 1);
        unknown("flight's bridge", SMALLEST, (x, n) -> x.flight(0, n), 1);
        CHECK.about("10: OUTSIDE (what)");
        outside("roll's what", BIGGEST, (x, n) -> x.roll(0, n), 0, 3);
        outside("roll's what where there is no entry", new Play(), (x, n) -> x.roll(0, n), 0, 3);
        CHECK.about("10: NONE");
        for (int i : new int[] {LEAST, -1, 20, 21, MOST}) {
            CHECK.due("roll(" + i + ", 0)", BIGGEST.like().roll(i, 0), NONE);
            CHECK.due("roll(" + i + ", 3)", BIGGEST.like().roll(i, 3), NONE);
        }
    }

    private static void promise11() {
        CHECK.about("11: UNKNOWN");
        unknown("leap's jumper", BIGGEST, (x, n) -> x.leap(n, 8), 6);
        unknown("leap's bridge", BIGGEST, (x, n) -> x.leap(5, n), 9);
        unknown("leap's jumper", SMALLEST, (x, n) -> x.leap(n, 0), 1);
        unknown("leap's bridge", SMALLEST, (x, n) -> x.leap(0, n), 1);
        CHECK.about("11: NOT: the BRIDGE is not where it is");
        for (int j = 0; j < 6; j++) {
            int at = BIGGEST.like().jumper(j, 1);
            for (int b = 0; b < 9; b++) {
                int bridge = b;
                int jumper = j;
                String call = "leap(" + j + ", " + b + ") from " + at;
                if (BIGGEST.like().bridge(b, 0) == at || BIGGEST.like().bridge(b, 1) == at) {
                    int answer = BIGGEST.like().leap(j, b);
                    CHECK.holds(call + " answered " + answer, answer == 0 || answer == 1);
                } else {
                    CHECK.refused(call, BIGGEST.like(), x -> x.leap(jumper, bridge), NOT);
                }
            }
        }
    }

    private static void promise12() {
        CHECK.about("12: UNKNOWN");
        unknown("post's keeper", BIGGEST, (x, n) -> x.post(n, 8), 9);
        unknown("post's bridge", BIGGEST, (x, n) -> x.post(8, n), 9);
        unknown("post's keeper", SMALLEST, (x, n) -> x.post(n, 0), 1);
        unknown("post's bridge", SMALLEST, (x, n) -> x.post(0, n), 1);
        CHECK.about("12: NOT: somebody (perhaps he) is there");
        for (int k = 0; k < 9; k++) {
            int keeper = k;
            for (int b = 0; b < 8; b++) {
                int bridge = b;
                CHECK.refused("post(" + k + ", " + b + ")", BIGGEST.like(), x -> x.post(keeper, bridge), NOT);
            }
            CHECK.due("post(" + k + ", 8)", BIGGEST.like().post(k, 8), k == 8 ? NONE : k);
        }
    }

    private static void promises13And14() {
        CHECK.about("13: UNKNOWN");
        unknown("rest", BIGGEST, Play::rest, 9);
        unknown("rest", SMALLEST, Play::rest, 1);
        CHECK.about("13: NOT: he is at none");
        CHECK.refused("rest(8) again", BIGGEST.like(), x -> x.rest(8), NOT);
        CHECK.refused("rest(1) without a bridge", Check.of("n2;b0 1 2 0;k0 1;k0 1;"), x -> x.rest(1), NOT);
        CHECK.due("rest(0)", Check.of("n2;b0 1 2 0;k0 1;k0 1;").rest(0), 0);
        CHECK.about("14: UNKNOWN");
        unknown("train", BIGGEST, Play::train, 9);
        unknown("train", SMALLEST, Play::train, 1);
        CHECK.about("14: NOT: it is 1");
        CHECK.refused("train(3) at 1", Towns.lived().tell("n2;"), y -> y.train(3), NOT);
        Play x = Check.of("n2;k0 2;k0 1;k0 3;");
        CHECK.due("train(0) at 2", x.train(0), 1);
        CHECK.refused("train(0) at 1", x, y -> y.train(0), NOT);
        CHECK.refused("train(1), told with 1", x, y -> y.train(1), NOT);
        CHECK.due("train(2) at 3", x.train(2), 2);
        CHECK.due("train(2) at 2", x.train(2), 1);
        CHECK.refused("train(2) at 1", x, y -> y.train(2), NOT);
    }

    private static void promise15() {
        CHECK.about("15: UNKNOWN");
        unknown("talk", BIGGEST, (x, n) -> x.talk(n, 0), 6);
        unknown("talk", SMALLEST, (x, n) -> x.talk(n, 30), 1);
        CHECK.about("15: TALKED (0 .. 30): OUTSIDE");
        outside("talk's doubt", BIGGEST, (x, n) -> x.talk(5, n), 0, 30);
        for (int doubt = 0; doubt <= 30; doubt++) {
            Play x = SMALLEST.like();
            CHECK.due("talk(0, " + doubt + ")", x.talk(0, doubt), 7);
            CHECK.due("doubt", x.jumper(0, 2), doubt);
        }
    }

    private static void promises16And17() {
        CHECK.about("16: n HOURS (1 .. 60): OUTSIDE");
        outside("hour", BIGGEST, Play::hour, 1, 60);
        CHECK.about("17: n HOURS (1 .. 60) BY DRAWS: OUTSIDE");
        outside("drift", BIGGEST, Play::drift, 1, 60);
        for (int n = 1; n <= 60; n++) {
            CHECK.due("hour(" + n + ")", BIGGEST.like().hour(n), 4 + n);
            CHECK.due("drift(" + n + ")", BIGGEST.like().drift(n), 4 + n);
        }
        CHECK.about("16, 17: NOT: no TOWN");
        for (Play x : new Play[] {new Play().tell("n2;"), emptied(), Towns.none(0), Towns.none(1)}) {
            CHECK.refused("hour(1)", x.like(), y -> y.hour(1), NOT);
            CHECK.refused("hour(60)", x.like(), y -> y.hour(60), NOT);
            CHECK.refused("drift(1)", x.like(), y -> y.drift(1), NOT);
            CHECK.refused("drift(60)", x.like(), y -> y.drift(60), NOT);
        }
        CHECK.due("hour(1) of the least town", Check.of("n2;").hour(1), 1);
        CHECK.due("drift(1) of the least town", Check.of("n2;").drift(1), 1);
        hoursFull();
    }

    private static Play emptied() {
        Play x = Check.of("n2;");
        x.hour(60);
        x.town();
        return x;
    }

    private static void hoursFull() {
        CHECK.about("16, 17: FULL: HOURS are above 9000");
        for (int last = 1; last <= 60; last++) {
            Play x = Towns.lived().tell("n2;");
            for (int i = 0; i < 149; i++) {
                x.hour(60);
            }
            x.hour(last);
            int hours = 8940 + last;
            CHECK.due("hours", x.like().told(5), hours);
            CHECK.due("hour(60) at " + hours, x.like().hour(60), hours + 60);
            CHECK.due("drift(60) at " + hours, x.like().drift(60), hours + 60);
            x.hour(60);
            if (hours == 8940 + 60) {
                x.undo();
                CHECK.due("drift(1) at 9000", x.drift(1), 9001);
            }
            CHECK.refused("hour(1) above 9000", x.like(), y -> y.hour(1), FULL);
            CHECK.refused("drift(60) above 9000", x.like(), y -> y.drift(60), FULL);
            CHECK.due("a leap above 9000", x.like().leap(0, 0), 1);
        }
    }

    private static void promise18() {
        CHECK.about("18: NOT: none");
        CHECK.refused("undo() of a new object", new Play(), Play::undo, NOT);
        CHECK.refused("undo() of a new town", Check.of("n2;"), Play::undo, NOT);
        Play lived = Towns.lived().tell("n2;");
        for (int i = 2; i >= 0; i--) {
            CHECK.due("undo()", lived.undo(), i);
        }
        CHECK.refused("undo() of a town where all is undone", lived, Play::undo, NOT);
        Play x = Check.of("n2;");
        x.hour(1);
        CHECK.due("undo()", x.undo(), 0);
        CHECK.refused("undo() once more", x, Play::undo, NOT);
    }

    private static void promises19And20() {
        CHECK.about("19: UNKNOWN");
        unknown("way's jumper", BIGGEST, (x, n) -> x.way(n, 7, 0), 6);
        unknown("way's place", BIGGEST, (x, n) -> x.way(5, n, 1), 8);
        unknown("way's jumper", SMALLEST, (x, n) -> x.way(n, 1, 1), 1);
        unknown("way's place", SMALLEST, (x, n) -> x.way(0, n, 0), 2);
        CHECK.about("19: OUTSIDE");
        outside("way's what", BIGGEST, (x, n) -> x.way(5, 7, n), 0, 1);
        CHECK.about("20: UNKNOWN");
        unknown("safest's jumper", BIGGEST, (x, n) -> x.safest(n, 7, 0), 6);
        unknown("safest's place", BIGGEST, (x, n) -> x.safest(5, n, 1), 8);
        unknown("safest's jumper", SMALLEST, (x, n) -> x.safest(n, 1, 1), 1);
        unknown("safest's place", SMALLEST, (x, n) -> x.safest(0, n, 0), 2);
        CHECK.about("20: OUTSIDE");
        outside("safest's what", BIGGEST, (x, n) -> x.safest(5, 7, n), 0, 1);
    }

    private static void promises21To23() {
        CHECK.about("21: UNKNOWN, but for b = NONE");
        unknown("posts' jumper", BIGGEST, (x, n) -> x.posts(n, NONE), 6);
        unknown("posts' jumper", SMALLEST, (x, n) -> x.posts(n, 0), 1);
        for (int b : new int[] {LEAST, -3, -2, 9, 10, MOST}) {
            CHECK.refused("posts(0, " + b + ")", BIGGEST.like(), x -> x.posts(0, b), UNKNOWN);
        }
        for (int b = -1; b < 9; b++) {
            known("posts' bridge", BIGGEST.like().posts(5, b), b);
        }
        CHECK.about("22: UNKNOWN");
        unknown("tires' jumper", BIGGEST, (x, n) -> x.tires(n, 0), 6);
        unknown("tires' bridge", BIGGEST, (x, n) -> x.tires(0, n), 9);
        unknown("tires' jumper", SMALLEST, (x, n) -> x.tires(n, 0), 1);
        unknown("tires' bridge", SMALLEST, (x, n) -> x.tires(0, n), 1);
        CHECK.about("22: NOT: there is no KEEPER");
        CHECK.refused("tires(0, 8)", BIGGEST.like(), x -> x.tires(0, 8), NOT);
        CHECK.refused("tires(0, 0) without keepers", Check.of("n2;b0 1 9 0;j0 0;"), x -> x.tires(0, 0), NOT);
        CHECK.about("23: UNKNOWN, one twice too");
        unknown("parted's first", BIGGEST, (x, n) -> x.parted(n, n == 7 ? 0 : 7), 8);
        unknown("parted's second", BIGGEST, (x, n) -> x.parted(n == 7 ? 0 : 7, n), 8);
        for (int place = 0; place < 8; place++) {
            int twice = place;
            CHECK.refused("parted() of " + place + " twice", BIGGEST.like(), x -> x.parted(twice, twice), UNKNOWN);
        }
        CHECK.refused("parted(0, 1) without a town", new Play(), x -> x.parted(0, 1), UNKNOWN);
    }

    private static void promises24And25() {
        CHECK.about("24: v pence (1 .. 99): OUTSIDE");
        outside("pays' v", SMALLEST, (x, n) -> x.pays(n, 50), 1, 99);
        CHECK.about("24: q of a hundred (0 .. 100): OUTSIDE");
        outside("pays' q", SMALLEST, (x, n) -> x.pays(99, n), 0, 100);
        CHECK.about("25: n evenings (0 .. 60): OUTSIDE");
        outside("exact's n", SMALLEST, (x, n) -> x.exact(n, 50), 0, 60);
        CHECK.about("25: q of a hundred (0 .. 100): OUTSIDE");
        outside("exact's q", SMALLEST, (x, n) -> x.exact(0, n), 0, 100);
    }

    private static void promises26To31() {
        CHECK.about("26: a FLIGHT of f (0 .. 40): OUTSIDE");
        outside("see over", SMALLEST, (x, n) -> x.see(n, true), 0, 40);
        outside("see not over", new Play(), (x, n) -> x.see(n, false), 0, 40);
        CHECK.about("26: FULL (6)");
        for (Play town : new Play[] {new Play(), Towns.lived().tell("n2;")}) {
            for (int i = town.like().told(12) + 1; i <= 6; i++) {
                CHECK.due("see() number " + i, town.see(20 + i, true), i);
            }
            CHECK.refused("a seventh", town.like(), y -> y.see(5, true), FULL);
            CHECK.refused("a seventh like the last", town.like(), y -> y.see(26, true), FULL);
            CHECK.refused("a seventh, not over", town, y -> y.see(5, false), FULL);
            town.tear();
            CHECK.due("see() behind tear()", town.see(5, false), 1);
        }
        CHECK.about("27: OUTSIDE");
        outside("quick", SMALLEST, Play::quick, 0, 2);
        CHECK.about("29: UNKNOWN");
        unknown("write's jumper", BIGGEST, (y, n) -> y.write(n, 7), 6);
        unknown("write's place", BIGGEST, (y, n) -> y.write(5, n), 8);
        unknown("write's jumper", SMALLEST, (y, n) -> y.write(n, 1), 1);
        unknown("write's place", SMALLEST, (y, n) -> y.write(0, n), 2);
        CHECK.about("29: FULL (15)");
        for (Play town : new Play[] {Check.of("n3;j0 0;"), Towns.lived().tell("n2;")}) {
            int place = town.like().jumper(0, 1);
            for (int i = town.like().told(13) + 1; i <= 15; i++) {
                CHECK.due("write() number " + i, town.write(0, place), i);
            }
            int wrong = town.like().judge();
            CHECK.refused("a sixteenth", town.like(), y -> y.write(0, place), FULL);
            CHECK.refused("a sixteenth that is wrong", town, y -> y.write(0, 2), FULL);
            CHECK.due("judge()", town.judge(), wrong);
            town.tear();
            CHECK.due("write() behind tear()", town.write(0, 1), 1);
        }
    }

    private static void promises32To34() {
        CHECK.about("32: v (0 .. 2147483647): OUTSIDE");
        for (int v : new int[] {LEAST, LEAST + 1, -2, -1}) {
            CHECK.refused("seed(" + v + ")", BIGGEST.like(), x -> x.seed(v), OUTSIDE);
        }
        for (int v : new int[] {0, 1, 2147483646, 2147483647}) {
            Play x = new Play();
            CHECK.due("seed(" + v + ")", x.seed(v), 0);
            CHECK.due("seed(0) behind " + v, x.seed(0), v);
        }
        CHECK.about("33: UNKNOWN");
        unknown("keep", BIGGEST, Play::keep, 2);
        unknown("keep", new Play(), Play::keep, 2);
        CHECK.about("34: UNKNOWN");
        unknown("goBack", BIGGEST, Play::goBack, 2);
        unknown("goBack", new Play(), Play::goBack, 2);
        CHECK.about("34: NOT: it was not kept");
        CHECK.refused("goBack(1)", BIGGEST.like(), x -> x.goBack(1), NOT);
        CHECK.due("goBack(0)", BIGGEST.like().goBack(0), 1);
        Play x = Check.of("n2;");
        CHECK.refused("goBack(0)", x, y -> y.goBack(0), NOT);
        x.keep(1);
        CHECK.refused("goBack(0) where 1 was kept", x, y -> y.goBack(0), NOT);
        CHECK.due("goBack(1)", x.goBack(1), 1);
    }
}
