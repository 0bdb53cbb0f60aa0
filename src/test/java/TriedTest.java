/** Promises 19 to 25: what is tried. */
public final class TriedTest {
    private static final Check CHECK = new Check("TriedTest");

    public static void main(String[] args) {
        promise19Way();
        promise19WayLesserFirst();
        promise20Safest();
        promise20SafestCutsInTurn();
        promise21Posts();
        promise21PostsByWhoIsTired();
        promise22Tires();
        promise23Parted();
        promise24Pays();
        promise25Exact();
        CHECK.end();
    }

    private static void way(Play x, int j, int to, int leaps, int first) {
        CHECK.due("way(" + j + ", " + to + ", 0)", x.way(j, to, 0), leaps);
        CHECK.due("way(" + j + ", " + to + ", 1)", x.way(j, to, 1), first);
    }

    private static void safest(Play x, int j, int to, int odds, int first) {
        CHECK.due("safest(" + j + ", " + to + ", 0)", x.safest(j, to, 0), odds);
        CHECK.due("safest(" + j + ", " + to + ", 1)", x.safest(j, to, 1), first);
    }

    private static void promise19Way() {
        Play x = Check.of("n5;b0 1 9 0;b1 2 9 0;b2 3 9 0;b0 3 4 0;k0 1;k0 1;k0 9;k0 5;j0 0;j3 3;");
        way(x, 0, 0, 0, Check.NONE);
        way(x, 0, 1, 1, 0);
        way(x, 0, 2, 2, 0);
        way(x, 0, 3, 3, 0);
        way(x, 0, 4, Check.NONE, Check.NONE);
        way(x, 1, 3, 0, Check.NONE);
        way(x, 1, 0, Check.NONE, Check.NONE);
        x.train(3);
        way(x, 0, 3, 1, 3);
        way(x, 0, 2, 2, 0);
        x.rest(0);
        way(x, 0, 2, 2, 3);
        String before = Picture.of(x);
        x.way(0, 2, 0);
        x.safest(0, 2, 0);
        x.posts(0, 0);
        x.tires(0, 1);
        x.parted(0, 2);
        CHECK.holds("nothing changes by what is tried", Picture.of(x).equals(before));
        CHECK.refused("way(2, 0, 0)", x, y -> y.way(2, 0, 0), Check.UNKNOWN);
        CHECK.refused("way(-1, 0, 0)", x, y -> y.way(-1, 0, 0), Check.UNKNOWN);
        CHECK.refused("way(0, 5, 0)", x, y -> y.way(0, 5, 0), Check.UNKNOWN);
        CHECK.refused("way(0, -1, 2)", x, y -> y.way(0, -1, 2), Check.UNKNOWN);
        CHECK.refused("way(0, 0, 2)", x, y -> y.way(0, 0, 2), Check.OUTSIDE);
        CHECK.refused("way(0, 0, -1)", x, y -> y.way(0, 0, -1), Check.OUTSIDE);
    }

    private static void promise19WayLesserFirst() {
        String keepers = "k0 1;k0 1;k0 1;k0 1;k0 1;k0 1;j0 0;";
        way(Check.of("n4;b1 3 9 0;b2 3 9 0;b0 2 9 0;b0 1 9 0;" + keepers), 0, 3, 2, 2);
        way(Check.of("n4;b0 1 9 0;b1 2 9 0;b2 3 9 0;b0 3 9 0;" + keepers), 0, 3, 1, 3);
        way(Check.of("n5;b0 4 9 0;b0 1 9 0;b1 2 9 0;b0 3 9 0;b3 2 9 0;" + keepers), 0, 2, 2, 1);
    }

    private static void promise20Safest() {
        String town = "n5;b0 1 9 10;b1 2 9 10;b0 2 9 20;b2 3 9 0;k0 1;k0 1;k0 1;k0 1;j0 0;";
        Play x = Check.of(town);
        safest(x, 0, 0, 1000000000, Check.NONE);
        safest(x, 0, 1, 900000000, 0);
        safest(x, 0, 2, 810000000, 0);
        safest(x, 0, 3, 810000000, 0);
        safest(x, 0, 4, Check.NONE, Check.NONE);
        x.rest(0);
        safest(x, 0, 2, 800000000, 2);
        safest(x, 0, 1, 720000000, 2);
        x.rest(2);
        safest(x, 0, 2, Check.NONE, Check.NONE);
        String keepers = "k0 1;k0 1;k0 1;k0 1;j0 0;";
        safest(Check.of("n3;b0 2 9 19;b0 1 9 10;b1 2 9 10;" + keepers), 0, 2, 810000000, 0);
        safest(Check.of("n3;b0 1 9 10;b0 2 9 19;b1 2 9 10;" + keepers), 0, 2, 810000000, 0);
        safest(Check.of("n3;b1 2 9 10;b0 2 9 19;b0 1 9 10;" + keepers), 0, 2, 810000000, 1);
        safest(Check.of("n3;b1 2 9 10;b0 2 9 20;b0 1 9 10;" + keepers), 0, 2, 810000000, 2);
        CHECK.refused("safest(1, 0, 0)", x, y -> y.safest(1, 0, 0), Check.UNKNOWN);
        CHECK.refused("safest(-1, 0, 0)", x, y -> y.safest(-1, 0, 0), Check.UNKNOWN);
        CHECK.refused("safest(0, 5, 2)", x, y -> y.safest(0, 5, 2), Check.UNKNOWN);
        CHECK.refused("safest(0, -1, 0)", x, y -> y.safest(0, -1, 0), Check.UNKNOWN);
        CHECK.refused("safest(0, 0, 2)", x, y -> y.safest(0, 0, 2), Check.OUTSIDE);
        CHECK.refused("safest(0, 0, -1)", x, y -> y.safest(0, 0, -1), Check.OUTSIDE);
    }

    private static void promise20SafestCutsInTurn() {
        String keepers = "k0 1;k0 1;k0 1;k0 1;k0 1;k0 1;k0 1;k0 1;j0 0;";
        Play x = Check.of("n8;b0 1 9 99;b1 2 9 99;b2 3 9 99;b3 4 9 99;b4 5 9 99;b5 6 9 99;b6 7 9 1;" + keepers);
        safest(x, 0, 4, 10, 0);
        safest(x, 0, 5, 0, 0);
        safest(x, 0, 7, 0, 0);
        Play cut = Check.of("n8;b0 1 9 67;b1 2 9 67;b2 3 9 67;b3 4 9 67;b4 5 9 67;b5 6 9 67;b6 7 9 3;" + keepers);
        int odds = 1000000000;
        for (int place = 1; place <= 6; place++) {
            odds = (int) (odds * 33L / 100);
            safest(cut, 0, place, odds, 0);
        }
        safest(cut, 0, 7, (int) (odds * 97L / 100), 0);
    }

    private static void posts(Play x, int j, int... due) {
        int over = 0;
        for (int b = 0; b < due.length; b++) {
            CHECK.due("posts(" + j + ", " + b + ")", x.posts(j, b), due[b]);
            over += due[b] == Check.NONE ? 0 : 1;
        }
        CHECK.due("posts(" + j + ", NONE)", x.posts(j, Check.NONE), over);
    }

    private static void promise21Posts() {
        Play x = Check.of("n4;b0 1 10 0;b1 2 5 0;b2 3 20 0;k0 20;k0 5;k0 10;j0 0;j3 0;");
        posts(x, 0, 2, 1, 0);
        posts(x, 1, 1, Check.NONE, 2);
        Play none = Check.of("n3;b0 1 2 0;b1 2 2 0;k0 3;k0 4;j0 0;");
        posts(none, 0, Check.NONE, Check.NONE);
        posts(Check.of("n3;b0 1 9 0;b1 2 9 0;j0 0;"), 0, Check.NONE, Check.NONE);
        posts(Check.of("n4;b0 1 9 0;b1 2 9 0;b2 3 9 0;k0 9;k0 1;j0 0;"), 0, 0, 1, Check.NONE);
        posts(Check.of("n4;b0 1 9 0;b1 2 30 0;b2 3 9 0;k0 30;k0 1;k0 9;j0 0;"), 0, 1, 0, 2);
        posts(Check.of("n4;b0 1 9 0;b1 2 30 0;k0 1;k0 2;k0 3;k0 4;k0 5;k0 6;k0 7;k0 8;k0 9;j0 0;"), 0, 0, 1);
        Play rested = Check.of("n3;b0 1 9 0;b1 2 9 0;k0 9;k0 1;j0 0;");
        rested.rest(0);
        rested.post(1, 0);
        posts(rested, 0, 0, 1);
        CHECK.due("posts() of one without bridges", Check.of("n2;k0 1;j0 0;").posts(0, Check.NONE), 0);
        CHECK.refused("posts(2, 0)", x, y -> y.posts(2, 0), Check.UNKNOWN);
        CHECK.refused("posts(-1, -1)", x, y -> y.posts(-1, -1), Check.UNKNOWN);
        CHECK.refused("posts(0, 3)", x, y -> y.posts(0, 3), Check.UNKNOWN);
        CHECK.refused("posts(0, -2)", x, y -> y.posts(0, -2), Check.UNKNOWN);
    }

    private static void promise21PostsByWhoIsTired() {
        Play x = Check.of("n3;b0 1 9 0;b1 2 7 0;k2 7;k0 9;j0 0;j2 0;");
        posts(x, 0, 1, 0);
        x.leap(0, 0);
        posts(x, 0, 0, Check.NONE);
        x.hour(1);
        posts(x, 0, 1, 0);
        posts(x, 1, 0, Check.NONE);
        Play young = Check.of("n2;b0 1 9 0;k1 8;j0 0;");
        posts(young, 0, 0);
        young.hour(1);
        posts(young, 0, Check.NONE);
    }

    private static void promise22Tires() {
        Play x = Check.of("n6;b0 1 10 0;b0 2 10 0;b0 3 10 0;b0 4 10 0;b0 5 10 0;k0 10;k1 10;k2 7;k3 7;j0 0;j1 1;");
        int[] due = {Check.NONE, Check.NONE, 4, 12};
        for (int b = 0; b < 4; b++) {
            CHECK.due("tires(0, " + b + ")", x.tires(0, b), due[b]);
            CHECK.due("tires(1, " + b + ") from elsewhere", x.tires(1, b), due[b]);
        }
        x.leap(0, 2);
        x.leap(0, 2);
        x.leap(0, 3);
        x.leap(0, 3);
        CHECK.due("tires(0, 2) of one tired by 2", x.tires(0, 2), 2);
        CHECK.due("tires(0, 3) of one tired by 2", x.tires(0, 3), 10);
        x.talk(1, 4);
        for (int b = 0; b < 4; b++) {
            CHECK.due("tires(1, " + b + "): not now", x.tires(1, b), 0);
        }
        CHECK.refused("tires(0, 4): nobody there", x, y -> y.tires(0, 4), Check.NOT);
        CHECK.refused("tires(2, 4)", x, y -> y.tires(2, 4), Check.UNKNOWN);
        CHECK.refused("tires(-1, 0)", x, y -> y.tires(-1, 0), Check.UNKNOWN);
        CHECK.refused("tires(0, 5)", x, y -> y.tires(0, 5), Check.UNKNOWN);
        CHECK.refused("tires(0, -1)", x, y -> y.tires(0, -1), Check.UNKNOWN);
        Play proud = Check.of("n2;b0 1 34 0;k3 1;j0 0;");
        CHECK.due("tires() 99 in all: time 34", proud.tires(0, 0), Check.NONE);
        proud = Check.of("n2;b0 1 33 0;k3 1;j0 0;");
        CHECK.due("tires() 99 in all: time 34 above 33", proud.tires(0, 0), 99);
        proud.leap(0, 0);
        CHECK.due("tires() behind a leap", proud.tires(0, 0), 98);
    }

    private static void promise23Parted() {
        Play x = Check.of("n5;b0 1 9 0;b1 2 9 0;b2 3 9 0;b0 3 9 0;b3 4 9 0;");
        CHECK.due("parted(0, 4)", x.parted(0, 4), 16);
        CHECK.due("parted(4, 0)", x.parted(4, 0), 16);
        CHECK.due("parted(0, 2)", x.parted(0, 2), 5);
        CHECK.due("parted(1, 3)", x.parted(1, 3), 3);
        CHECK.due("parted(0, 1)", x.parted(0, 1), 3);
        CHECK.refused("parted(2, 2)", x, y -> y.parted(2, 2), Check.UNKNOWN);
        CHECK.refused("parted(5, 0)", x, y -> y.parted(5, 0), Check.UNKNOWN);
        CHECK.refused("parted(0, 5)", x, y -> y.parted(0, 5), Check.UNKNOWN);
        CHECK.refused("parted(-1, 0)", x, y -> y.parted(-1, 0), Check.UNKNOWN);
        CHECK.refused("parted(0, -1)", x, y -> y.parted(0, -1), Check.UNKNOWN);
        Play parts = Check.of("n4;b0 1 9 0;b2 3 9 0;");
        CHECK.due("parted(0, 3) of two parts", parts.parted(0, 3), 0);
        CHECK.due("parted(2, 3)", parts.parted(2, 3), 2);
        Play thick = Check.of("n5;b0 1 9 0;b0 2 9 0;b0 3 9 0;b0 4 9 0;b1 2 9 0;b1 3 9 0;b1 4 9 0;b2 3 9 0;b3 4 9 0;");
        CHECK.due("parted(0, 1) of a thick town", thick.parted(0, 1), 15);
        CHECK.due("parted(2, 4)", thick.parted(2, 4), 146);
        CHECK.due("the only bridge", Check.of("n2;b0 1 9 0;").parted(1, 0), 1);
    }

    private static void promise24Pays() {
        CHECK.due("pays(1, 0)", new Play().pays(1, 0), 0);
        CHECK.due("pays(1, 100)", new Play().pays(1, 100), 30);
        CHECK.due("pays(99, 99)", new Play().pays(99, 99), 30);
        CHECK.due("pays(99, 50): of like ones the fewest", new Play().pays(99, 50), 1);
        CHECK.due("pays(1, 90)", new Play().pays(1, 90), 9);
        CHECK.due("pays(1, 1)", new Play().pays(1, 1), 1);
        Play x = Check.of("n2;");
        for (int q = 0; q <= 100; q++) {
            long odds = 1000000000;
            long most = 0;
            int best = 0;
            for (int n = 1; n <= 30; n++) {
                odds = odds * q / 100;
                if (odds * n > most) {
                    most = odds * n;
                    best = n;
                }
            }
            CHECK.due("pays(7, " + q + ")", x.pays(7, q), best);
        }
        CHECK.refused("pays(0, 50)", x, y -> y.pays(0, 50), Check.OUTSIDE);
        CHECK.refused("pays(100, 50)", x, y -> y.pays(100, 50), Check.OUTSIDE);
        CHECK.refused("pays(1, -1)", x, y -> y.pays(1, -1), Check.OUTSIDE);
        CHECK.refused("pays(1, 101)", x, y -> y.pays(1, 101), Check.OUTSIDE);
    }

    private static void promise25Exact() {
        Play x = new Play();
        CHECK.due("exact(0, 0)", x.exact(0, 0), 1000000000);
        CHECK.due("exact(1, 0)", x.exact(1, 0), 0);
        CHECK.due("exact(60, 100)", x.exact(60, 100), 1000000000);
        CHECK.due("exact(3, 95)", x.exact(3, 95), 857375000);
        CHECK.due("exact(4, 1)", x.exact(4, 1), 10);
        CHECK.due("exact(5, 1)", x.exact(5, 1), 0);
        long odds = 1000000000;
        for (int n = 0; n <= 60; n++) {
            CHECK.due("exact(" + n + ", 83)", x.exact(n, 83), odds);
            odds = odds * 83 / 100;
        }
        CHECK.refused("exact(-1, 50)", x, y -> y.exact(-1, 50), Check.OUTSIDE);
        CHECK.refused("exact(61, 50)", x, y -> y.exact(61, 50), Check.OUTSIDE);
        CHECK.refused("exact(1, -1)", x, y -> y.exact(1, -1), Check.OUTSIDE);
        CHECK.refused("exact(1, 101)", x, y -> y.exact(1, 101), Check.OUTSIDE);
    }
}
