/** Section 3 and promises 5, 8, 19 to 31: what is tried and seen, on the bounds that the document names. */
public final class BoundsOfTriedTest {
    private static final Check CHECK = new Check("BoundsOfTriedTest");
    private static final int NONE = Check.NONE;
    private static final int BILLION = 1000000000;
    private static final String LINE = "n8;b0 1 9 0;b1 2 9 10;b2 3 9 99;b3 4 9 99;b4 5 9 99;b5 6 9 99;b6 7 9 99;";
    private static final String NINE_QUICK = "k0 1;".repeat(9);

    public static void main(String[] args) {
        nothingChanges();
        daresWhereverTheyAre();
        wayItIsThere();
        noWay();
        longestWay();
        likeWays();
        safestItIsThere();
        noSafest();
        safestIsCutInTurn();
        safestOfLikeWays();
        safestNoPlaceTwice();
        postsOfNone();
        postsOfLikeOnes();
        postsOfTheMost();
        tiresToNinetyNine();
        tiresNotNow();
        tiresByNone();
        bottlesAndFar();
        partedOfNoWay();
        partedOfLikeOnes();
        trust();
        driest();
        CHECK.end();
    }

    private static void way(Play x, int to, int leaps, int first) {
        CHECK.due("way(0, " + to + ", 0)", x.way(0, to, 0), leaps);
        CHECK.due("way(0, " + to + ", 1)", x.way(0, to, 1), first);
    }

    private static void safest(Play x, int to, int odds, int first) {
        CHECK.due("safest(0, " + to + ", 0)", x.safest(0, to, 0), odds);
        CHECK.due("safest(0, " + to + ", 1)", x.safest(0, to, 1), first);
    }

    private static void nothingChanges() {
        CHECK.about("3: TRIED from now; nothing changes by it");
        Play x = Check.of("n4;b0 1 9 5;b1 2 9 10;b2 3 9 20;b0 3 9 99;k0 1;k1 8;k2 3;k3 9;j0 0;j1 1;j2 2;j3 3;");
        x.keep(0);
        x.leap(1, 1);
        x.hour(3);
        x.see(30, true);
        x.write(0, 0);
        String before = Picture.of(x);
        for (int j = 0; j < 4; j++) {
            for (int n = 0; n < 4; n++) {
                x.way(j, n, 0);
                x.way(j, n, 1);
                x.safest(j, n, 0);
                x.safest(j, n, 1);
                x.posts(j, n);
                x.tires(j, n);
                x.parted(j, n);
                x.flight(j, n);
            }
            x.posts(j, NONE);
        }
        x.pays(5, 80);
        x.exact(30, 90);
        x.watch();
        x.quick(0);
        x.judge();
        CHECK.holds("something has changed", Picture.of(x).equals(before));
    }

    private static void daresWhereverTheyAre() {
        CHECK.about("3: DARES: BRIDGES (a SET, wherever they are)");
        Play x = Check.of("n8;b0 1 9 0;b2 3 10 0;b4 5 11 0;b6 7 40 0;k0 10;k0 10;k0 10;k0 10;j0 0;j3 7;");
        CHECK.due("dares", x.jumper(0, 5), 14);
        CHECK.due("a cart dares", x.jumper(1, 5), 8);
        for (int b = 0; b < 9; b++) {
            CHECK.due("the one with a keeper", oneKeeperAt(b).jumper(0, 5), 1 << b);
        }
        CHECK.due("nothing without bridges", Check.of("n2;k0 1;j0 0;").jumper(0, 5), 0);
        CHECK.due("nothing without keepers", Check.of("n2;b0 1 40 0;j0 0;").jumper(0, 5), 0);
    }

    /** Four places, six bridges between all of them, three to others; the one keeper is at bridge b. */
    private static Play oneKeeperAt(int b) {
        Play x = Check.of("n7;b0 1 9 0;b0 2 9 0;b0 3 9 0;b1 2 9 0;b1 3 9 0;b2 3 9 0;b3 4 9 0;b3 5 9 0;b3 6 9 7;k0 9;j0 3;");
        x.rest(0);
        x.post(0, b);
        return x;
    }

    private static void wayItIsThere() {
        CHECK.about("19: 0: it is there; NONE: it is there");
        way(Check.of("n2;j0 0;"), 0, 0, NONE);
        way(Check.of("n2;j0 1;"), 1, 0, NONE);
        for (int place = 0; place < 8; place++) {
            way(Check.of(LINE + NINE_QUICK + "j0 " + place + ";"), place, 0, NONE);
        }
    }

    private static void noWay() {
        CHECK.about("3: WAY: NONE");
        way(Check.of("n2;j0 0;"), 1, NONE, NONE);
        way(Check.of("n2;b0 1 9 0;j0 0;"), 1, NONE, NONE);
        way(Check.of("n2;b0 1 9 0;k0 10;j0 0;"), 1, NONE, NONE);
        way(Check.of("n2;b0 1 9 0;k0 9;j0 0;"), 1, 1, 0);
        way(Check.of("n4;b0 1 9 0;b2 3 9 0;k0 9;k0 9;j0 0;"), 2, NONE, NONE);
        way(oneKeeperAt(7), 6, NONE, NONE);
        way(oneKeeperAt(8), 6, 1, 8);
        way(Check.of("n4;b0 1 9 0;b2 3 9 0;b1 2 9 0;k0 9;k0 9;k0 10;j0 0;"), 3, NONE, NONE);
        way(Check.of("n4;b0 1 9 0;b2 3 9 0;b1 2 9 0;k0 9;k0 9;k0 9;j0 0;"), 3, 3, 0);
    }

    private static void longestWay() {
        CHECK.about("3: WAY: the fewest LEAPS");
        for (int place = 0; place < 8; place++) {
            way(Check.of(LINE + NINE_QUICK + "j0 0;"), place, place, place == 0 ? NONE : 0);
            way(Check.of(LINE + NINE_QUICK + "j0 7;"), place, 7 - place, place == 7 ? NONE : 6);
            int ring = Math.min(place, 8 - place);
            way(Check.of(LINE + "b7 0 9 0;" + NINE_QUICK + "j0 0;"), place, ring,
                place == 0 ? NONE : place <= 4 ? 0 : 7);
        }
    }

    private static void likeWays() {
        CHECK.about("3: WAY: the first BRIDGE (LEAP by LEAP the lesser)");
        way(Check.of("n4;b0 1 9 0;b0 2 9 0;b1 3 9 0;b2 3 9 0;" + NINE_QUICK + "j0 0;"), 3, 2, 0);
        way(Check.of("n4;b2 3 9 0;b1 3 9 0;b0 2 9 0;b0 1 9 0;" + NINE_QUICK + "j0 0;"), 3, 2, 2);
        way(Check.of("n4;b2 3 9 0;b1 3 9 0;b0 1 9 0;b0 2 9 0;" + NINE_QUICK + "j0 0;"), 3, 2, 2);
        Play x = Check.of("n4;b2 3 9 0;b1 3 9 0;b0 1 9 0;b0 2 9 0;" + NINE_QUICK + "j0 0;");
        x.rest(2);
        way(x, 3, 2, 3);
        way(Check.of("n5;b0 1 9 0;b1 2 9 0;b2 3 9 0;b0 4 9 0;b4 3 9 0;" + NINE_QUICK + "j0 0;"), 3, 2, 3);
    }

    private static void safestItIsThere() {
        CHECK.about("20: a BILLION: it is there; NONE: it is there");
        safest(Check.of("n2;j0 0;"), 0, BILLION, NONE);
        for (int place = 0; place < 8; place++) {
            safest(Check.of(LINE + NINE_QUICK + "j0 " + place + ";"), place, BILLION, NONE);
        }
        CHECK.due("a bridge that never jams", Check.of("n2;b0 1 9 0;k0 1;j0 0;").safest(0, 1, 0), BILLION);
    }

    private static void noSafest() {
        CHECK.about("3: SAFEST: NONE");
        safest(Check.of("n2;j0 0;"), 1, NONE, NONE);
        safest(Check.of("n2;b0 1 9 0;j0 0;"), 1, NONE, NONE);
        safest(Check.of("n2;b0 1 9 0;k0 10;j0 0;"), 1, NONE, NONE);
        safest(Check.of("n2;b0 1 9 99;k0 9;j0 0;"), 1, 10000000, 0);
        safest(Check.of("n4;b0 1 9 0;b2 3 9 0;k0 9;k0 9;j0 0;"), 2, NONE, NONE);
        safest(oneKeeperAt(7), 6, NONE, NONE);
        safest(oneKeeperAt(8), 6, 930000000, 8);
    }

    private static void safestIsCutInTurn() {
        CHECK.about("3: SAFEST: a BILLION times (100 less Q) / 100 for each BRIDGE, in turn (cut)");
        Play x = Check.of(LINE + NINE_QUICK + "j0 0;");
        int[] odds = {BILLION, BILLION, 900000000, 9000000, 90000, 900, 9, 0};
        for (int place = 0; place < 8; place++) {
            safest(x, place, odds[place], place == 0 ? NONE : 0);
        }
        for (int q = 0; q <= 99; q++) {
            safest(Check.of("n2;b0 1 9 " + q + ";k0 9;j0 0;"), 1, 10000000 * (100 - q), 0);
        }
        // 9 times 90 / 100 is 8, behind 99, 99, 99, 99, 10 it is 9, ahead of them all it would be 9 too.
        Play first = Check.of("n6;b0 1 9 10;b1 2 9 99;b2 3 9 99;b3 4 9 99;b4 5 9 99;" + NINE_QUICK + "j0 0;");
        safest(first, 5, 9, 0);
        Play twice = Check.of("n7;b0 1 9 10;b1 2 9 99;b2 3 9 99;b3 4 9 99;b4 5 9 99;b5 6 9 10;" + NINE_QUICK + "j0 0;");
        safest(twice, 6, 8, 0);
        Play fromThere = Check.of("n7;b0 1 9 99;b1 2 9 99;b2 3 9 99;b3 4 9 95;b4 5 9 67;" + NINE_QUICK + "j0 0;");
        safest(fromThere, 5, 16, 0);
        Play andBack = Check.of("n7;b0 1 9 99;b1 2 9 99;b2 3 9 99;b3 4 9 95;b4 5 9 67;b5 6 9 99;" + NINE_QUICK + "j0 6;");
        safest(andBack, 0, 0, 5);
    }

    private static void safestOfLikeWays() {
        CHECK.about("3: SAFEST: the first BRIDGE (of like ways LEAP by LEAP the lesser)");
        safest(Check.of("n3;b0 2 9 19;b0 1 9 10;b1 2 9 10;" + NINE_QUICK + "j0 0;"), 2, 810000000, 0);
        safest(Check.of("n3;b0 2 9 20;b0 1 9 10;b1 2 9 10;" + NINE_QUICK + "j0 0;"), 2, 810000000, 1);
        safest(Check.of("n3;b0 2 9 18;b0 1 9 10;b1 2 9 10;" + NINE_QUICK + "j0 0;"), 2, 820000000, 0);
        safest(Check.of("n3;b0 1 9 10;b1 2 9 10;b0 2 9 19;" + NINE_QUICK + "j0 0;"), 2, 810000000, 0);
        safest(Check.of("n4;b1 3 9 5;b0 2 9 5;b0 1 9 7;b2 3 9 7;" + NINE_QUICK + "j0 0;"), 3, 883500000, 1);
        safest(Check.of("n8;b0 1 9 0;b1 2 9 99;b2 3 9 99;b3 4 9 99;b4 5 9 99;b5 6 9 99;b6 7 9 99;b0 6 9 0;"
            + NINE_QUICK + "j0 0;"), 7, 10000000, 7);
        // By like odds of 0 the lesser bridge leads, be its way the shorter or the longer.
        String toFive = "b1 2 9 99;b2 3 9 99;b3 4 9 99;b4 5 9 99;";
        safest(Check.of("n7;b0 1 9 99;b0 6 9 99;b6 2 9 99;" + toFive + NINE_QUICK + "j0 0;"), 5, 0, 0);
        safest(Check.of("n7;b0 6 9 99;b6 2 9 99;b0 1 9 99;" + toFive + NINE_QUICK + "j0 0;"), 5, 0, 0);
    }

    private static void safestNoPlaceTwice() {
        CHECK.about("3: SAFEST: no PLACE twice");
        Play x = Check.of("n4;b0 1 9 0;b1 2 9 0;b2 0 9 0;b2 3 9 50;" + NINE_QUICK + "j0 2;");
        safest(x, 3, 500000000, 3);
        safest(x, 0, BILLION, 1);
        safest(x, 1, BILLION, 1);
    }

    private static void posts(Play x, int count, int... keepers) {
        CHECK.due("posts(0, NONE)", x.posts(0, NONE), count);
        for (int b = 0; b < keepers.length; b++) {
            CHECK.due("posts(0, " + b + ")", x.posts(0, b), keepers[b]);
        }
    }

    private static void postsOfNone() {
        CHECK.about("3: POSTS: none where it would not come over; NONE");
        posts(Check.of("n2;j0 0;"), 0);
        posts(Check.of("n2;k0 1;j0 0;"), 0);
        posts(Check.of("n2;b0 1 9 0;j0 0;"), 0, NONE);
        posts(Check.of("n2;b0 1 9 0;k0 10;j0 0;"), 0, NONE);
        posts(Check.of("n2;b0 1 9 0;k0 9;j0 0;"), 1, 0);
        posts(Check.of("n2;b0 1 9 0;k0 10;k0 9;j0 0;"), 1, 1);
        posts(Check.of("n2;b0 1 9 0;k0 10;k0 10;j0 0;"), 0, NONE);
        posts(Check.of("n2;b0 1 9 0;" + "k0 10;".repeat(9) + "j0 0;"), 0, NONE);
        posts(Check.of("n2;b0 1 9 0;" + "k0 10;".repeat(8) + "k0 9;j0 0;"), 1, 8);
        posts(Check.of("n3;b0 1 9 0;b1 2 8 0;k0 9;k0 9;j0 0;"), 1, 0, NONE);
        posts(Check.of("n3;b0 1 8 0;b1 2 9 0;k0 9;k0 9;j0 0;"), 1, NONE, 0);
    }

    private static void postsOfLikeOnes() {
        CHECK.about("3: POSTS: of like ones the first (BRIDGE by BRIDGE the lesser KEEPER, none last)");
        posts(Check.of("n3;b0 1 9 0;b1 2 9 0;k0 9;j0 0;"), 1, 0, NONE);
        posts(Check.of("n3;b0 1 9 0;b1 2 9 0;k0 9;k0 9;k0 9;j0 0;"), 2, 0, 1);
        posts(Check.of("n3;b0 1 9 0;b1 2 8 0;k0 8;k0 9;j0 0;"), 2, 1, 0);
        posts(Check.of("n3;b0 1 9 0;b1 2 8 0;k0 8;k0 8;j0 0;"), 2, 0, 1);
        posts(Check.of("n4;b0 1 9 0;b1 2 9 0;b2 3 9 0;k0 10;k0 9;k0 8;j0 0;"), 2, 1, 2, NONE);
        posts(Check.of("n4;b0 1 20 0;b1 2 9 0;b2 3 30 0;k0 9;k0 25;k0 15;j0 0;"), 3, 2, 0, 1);
        Play rested = Check.of("n3;b0 1 9 0;b1 2 9 0;k0 9;k0 9;j0 0;");
        rested.rest(0);
        rested.rest(1);
        posts(rested, 2, 0, 1);
    }

    private static void postsOfTheMost() {
        CHECK.about("3: POSTS: the most BRIDGES over which a told JUMPER would come now");
        String airs = "n8;b0 1 2 0;b0 2 3 0;b0 3 4 0;b0 4 5 0;b0 5 6 0;b0 6 7 0;b0 7 8 0;b1 2 9 0;b1 3 10 0;";
        posts(Check.of(airs + "k0 10;k0 9;k0 8;k0 7;k0 6;k0 5;k0 4;k0 3;k0 2;j0 0;"), 9, 8, 7, 6, 5, 4, 3, 2, 1, 0);
        posts(Check.of(airs + "k0 11;k0 10;k0 9;k0 8;k0 7;k0 6;k0 5;k0 4;k0 3;j0 0;"), 8, NONE, 8, 7, 6, 5, 4, 3, 2, 1);
        posts(Check.of(airs + NINE_QUICK + "j0 0;"), 9, 0, 1, 2, 3, 4, 5, 6, 7, 8);
        posts(Check.of(airs + "k0 11;".repeat(9) + "j0 0;"), 0, NONE, NONE, NONE, NONE, NONE, NONE, NONE, NONE, NONE);
        posts(Check.of(airs + "k0 10;".repeat(9) + "j0 0;"), 1, NONE, NONE, NONE, NONE, NONE, NONE, NONE, NONE, 0);
        posts(Check.of(airs + NINE_QUICK + "j3 0;"), 9, 0, 1, 2, 3, 4, 5, 6, 7, 8);
        String down = "n8;b0 1 10 0;b0 2 9 0;b0 3 8 0;b0 4 7 0;b0 5 6 0;b0 6 5 0;b0 7 4 0;b1 2 3 0;b1 3 2 0;";
        posts(Check.of(down + "k0 2;k0 3;k0 4;k0 5;k0 6;k0 7;k0 8;k0 9;k0 10;j0 0;"), 9, 8, 7, 6, 5, 4, 3, 2, 1, 0);
        posts(Check.of(down + "k0 10;k0 9;k0 8;k0 7;k0 6;k0 5;k0 4;k0 3;k0 2;j0 0;"), 9, 0, 1, 2, 3, 4, 5, 6, 7, 8);
        posts(Check.of(down + "k0 3;k0 4;k0 5;k0 6;k0 7;k0 8;k0 9;k0 10;k0 11;j0 0;"), 8, 7, 6, 5, 4, 3, 2, 1, 0, NONE);
        String mixed = "n8;b0 1 20 0;b0 2 5 0;b0 3 30 0;b0 4 10 0;b0 5 5 0;";
        posts(Check.of(mixed + "k0 5;k0 30;k0 5;k0 10;k0 20;j0 0;"), 5, 4, 0, 1, 3, 2);
        posts(Check.of(mixed + "k0 5;k0 30;k0 6;k0 10;k0 20;j0 0;"), 4, 2, 0, 1, 3, NONE);
    }

    private static void tiresToNinetyNine() {
        CHECK.about("3: TIRES: by how much more TIRED (0 .. 99, to 99 in all)");
        // A proud one of R is too slow for a flight f once a third of TIRED is more than f less R.
        for (int more = 29; more <= 39; more++) {
            int threshold = 3 * (more + 1);
            for (int leaps : new int[] {0, 1, 50, 95, 96, 97, 98, 99, 100}) {
                Play x = Check.of("n2;b0 1 " + (1 + more) + " 0;k3 1;j0 0;");
                for (int i = 0; i < leaps; i++) {
                    x.leap(0, 0);
                }
                int tired = Math.min(99, leaps);
                int due = threshold > 99 ? NONE : Math.max(0, threshold - tired);
                CHECK.due("tires() of " + more + " more, tired by " + tired, x.tires(0, 0), due);
            }
        }
        for (int more = 0; more <= 39; more++) {
            Play old = Check.of("n2;b0 1 40 0;k2 " + (40 - more) + ";j0 0;");
            CHECK.due("tires() of an old one, " + more + " more", old.tires(0, 0), more + 1);
        }
    }

    private static void tiresNotNow() {
        CHECK.about("3: TIRES: 0: it would not now");
        for (int kind = 0; kind <= 3; kind++) {
            CHECK.due("tires(): time 10, flight 9", Check.of("n2;b0 1 9 0;k" + kind + " 10;j0 0;").tires(0, 0), 0);
        }
        Play young = Check.of("n2;b0 1 9 0;k1 8;j0 0;");
        CHECK.due("tires() of a young one in an even hour", young.tires(0, 0), NONE);
        young.hour(1);
        CHECK.due("tires() of a young one in an odd hour", young.tires(0, 0), 0);
        Play stranger = Check.of("n2;b0 1 9 0;k2 7;j1 0;");
        CHECK.due("tires() of 7 for 9", stranger.tires(0, 0), 3);
        stranger.talk(0, 2);
        CHECK.due("tires() of 7 for 7", stranger.tires(0, 0), 1);
        stranger.talk(0, 3);
        CHECK.due("tires() of 7 for 6", stranger.tires(0, 0), 0);
        stranger.talk(0, 30);
        CHECK.due("tires() of 7 for 0", stranger.tires(0, 0), 0);
    }

    private static void tiresByNone() {
        CHECK.about("3: TIRES: NONE: by none");
        CHECK.due("tires() of an exact one", Check.of("n2;b0 1 9 0;k0 9;j0 0;").tires(0, 0), NONE);
        CHECK.due("tires() of a young one", Check.of("n2;b0 1 9 0;k1 9;j0 0;").tires(0, 0), NONE);
        CHECK.due("tires() of a proud one", Check.of("n2;b0 1 40 0;k3 1;j0 0;").tires(0, 0), NONE);
        CHECK.due("tires() of a proud one, 32 more", Check.of("n2;b0 1 40 0;k3 8;j0 0;").tires(0, 0), 99);
        CHECK.due("tires() of a proud one, 33 more", Check.of("n2;b0 1 40 0;k3 7;j0 0;").tires(0, 0), NONE);
    }

    private static void bottlesAndFar() {
        CHECK.about("3: BOTTLES: without which two PLACES, between which there is a way, have none");
        CHECK.due("without a town", new Play().told(7), 0);
        CHECK.due("without bridges", Check.of("n8;").told(7), 0);
        CHECK.due("one bridge", Check.of("n2;b0 1 9 0;").told(7), 1);
        CHECK.due("a line", Check.of(LINE).told(7), 127);
        CHECK.due("a ring", Check.of(LINE + "b7 0 9 0;").told(7), 0);
        CHECK.due("a ring of three and a tail", Check.of("n4;b2 3 9 0;b0 1 9 0;b1 2 9 0;b2 0 9 0;").told(7), 1);
        CHECK.due("two parts", Check.of("n4;b0 1 9 0;b2 3 9 0;").told(7), 3);
        CHECK.about("3: FAR: the most BRIDGES of a shortest way (those without a way not counted)");
        CHECK.due("without a town", new Play().told(8), 0);
        CHECK.due("without bridges", Check.of("n8;").told(8), 0);
        CHECK.due("one bridge", Check.of("n8;b6 7 9 0;").told(8), 1);
        CHECK.due("a line", Check.of(LINE).told(8), 7);
        CHECK.due("a ring", Check.of(LINE + "b7 0 9 0;").told(8), 4);
        CHECK.due("a line and one apart", Check.of("n8;b0 1 9 0;b1 2 9 0;b2 3 9 0;b4 5 9 0;").told(8), 3);
    }

    private static void partedOfNoWay() {
        CHECK.about("3: PARTED: the fewest BRIDGES without which there is no way between two PLACES");
        CHECK.due("without bridges", Check.of("n2;").parted(0, 1), 0);
        CHECK.due("two parts", Check.of("n4;b0 1 9 0;b2 3 9 0;").parted(1, 2), 0);
        CHECK.due("one bridge", Check.of("n2;b0 1 9 0;").parted(0, 1), 1);
        CHECK.due("one bridge, from the other side", Check.of("n2;b0 1 9 0;").parted(1, 0), 1);
        CHECK.due("of two the nearer", Check.of("n3;b0 1 9 0;b1 2 9 0;").parted(0, 1), 1);
        CHECK.due("of two the farther", Check.of("n3;b0 1 9 0;b1 2 9 0;").parted(1, 2), 2);
        Play thick = Check.of("n5;b0 1 9 0;b0 2 9 0;b0 3 9 0;b0 4 9 0;b1 2 9 0;b1 3 9 0;b1 4 9 0;b2 3 9 0;b3 4 9 0;");
        CHECK.due("four of nine", thick.parted(0, 1), 15);
        CHECK.due("four of nine, from the other side", thick.parted(1, 0), 15);
        CHECK.due("three of nine", thick.parted(3, 4), 328);
        Play wide = Check.of("n6;b0 2 9 0;b2 1 9 0;b0 3 9 0;b3 1 9 0;b0 4 9 0;b4 1 9 0;b0 5 9 0;b5 1 9 0;");
        CHECK.due("one of each of four ways", wide.parted(0, 1), 85);
    }

    private static void partedOfLikeOnes() {
        CHECK.about("3: PARTED: of like ones the least");
        CHECK.due("a line: its first", Check.of(LINE).parted(0, 7), 1);
        CHECK.due("a line: between 3 and 6", Check.of(LINE).parted(6, 3), 8);
        CHECK.due("a ring: one of each side", Check.of(LINE + "b7 0 9 0;").parted(0, 4), 17);
        CHECK.due("a ring: next to each other", Check.of(LINE + "b7 0 9 0;").parted(6, 7), 65);
        CHECK.due("a square", Check.of("n4;b3 0 9 0;b2 3 9 0;b1 2 9 0;b0 1 9 0;").parted(0, 2), 5);
        CHECK.due("fewer ahead of lesser", Check.of("n4;b0 1 9 0;b0 2 9 0;b1 2 9 0;b2 3 9 0;").parted(0, 3), 8);
    }

    private static Play been(int over, int dried) {
        Play x = Check.of("n3;b0 1 9 0;b0 2 9 0;b1 2 9 0;k0 9;k0 10;k0 10;j0 0;j0 0;");
        for (int i = 0; i < over; i++) {
            x.leap(0, 0);
        }
        for (int i = 0; i < dried; i++) {
            x.leap(0, over % 2 == 0 ? 1 : 2);
        }
        CHECK.due("over", x.jumper(0, 3), over);
        CHECK.due("dried", x.jumper(0, 4), dried);
        return x;
    }

    private static void trust() {
        CHECK.about("3: TRUST: JUMPERS (a SET of JUMPERS) who have been over more often than DRIED");
        for (int over = 0; over <= 4; over++) {
            for (int dried = 0; dried <= 4; dried++) {
                CHECK.due("trust", been(over, dried).told(9), over > dried ? 1 : 0);
            }
        }
        CHECK.due("without jumpers", Check.of("n2;").told(9), 0);
        CHECK.due("without a town", new Play().told(9), 0);
    }

    private static void driest() {
        CHECK.about("3: DRIEST: the JUMPER least often DRIED; of like ones the least; NONE");
        CHECK.due("without a town", new Play().told(10), NONE);
        CHECK.due("without jumpers", Check.of("n2;b0 1 9 0;k0 9;").told(10), NONE);
        CHECK.due("one jumper", Check.of("n2;j0 0;").told(10), 0);
        CHECK.due("one jumper, dried", dried(1, 0).told(10), 0);
        CHECK.due("six, none dried", dried(6).told(10), 0);
        CHECK.due("six, 0 dried", dried(6, 0).told(10), 1);
        CHECK.due("six, all but 5 dried", dried(6, 0, 1, 2, 3, 4).told(10), 5);
        CHECK.due("six, all dried", dried(6, 0, 1, 2, 3, 4, 5).told(10), 0);
        CHECK.due("six, all dried, 0 twice", dried(6, 0, 0, 1, 2, 3, 4, 5).told(10), 1);
        CHECK.due("six, all but 3 dried twice", dried(6, 0, 1, 2, 3, 4, 5, 0, 1, 2, 4, 5).told(10), 3);
    }

    private static Play dried(int jumpers, int... leaps) {
        Play x = Check.of("n2;b0 1 9 0;" + "j0 0;".repeat(jumpers));
        for (int j : leaps) {
            x.leap(j, 0);
        }
        return x;
    }
}
