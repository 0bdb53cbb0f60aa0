/** Promises 1 to 10: the town. */
public final class TownTest {
    private static final Check CHECK = new Check("TownTest");
    private static final String TOWN =
        "n5;b0 1 10 5;b1 2 6 0;b2 3 12 20;b0 3 4 0;b3 4 20 50;k0 5;k1 6;k2 9;k3 4;j0 0;j1 0;j2 2;j3 3;";

    public static void main(String[] args) {
        promise1NewObject();
        promise2Feed();
        promise3Town();
        promise3KeepsAllElseWithAFault();
        promise3EmptyText();
        promise3AnewOnOneObject();
        promise4Faults();
        promise4MoreFaults();
        promise5Told();
        promise5BottlesAndFar();
        promise6Bridge();
        promise7Keeper();
        promise8Jumper();
        promise9Flight();
        promise10Roll();
        CHECK.end();
    }

    private static void promise1NewObject() {
        Play x = new Play();
        for (int what = 0; what <= 14; what++) {
            CHECK.due("new: told(" + what + ")", x.told(what), what == 10 ? Check.NONE : 0);
        }
        CHECK.due("new: fault()", x.fault(), Check.NONE);
        CHECK.due("new: bridge(0, 0)", x.bridge(0, 0), Check.UNKNOWN);
        CHECK.due("new: keeper(0, 0)", x.keeper(0, 0), Check.UNKNOWN);
        CHECK.due("new: jumper(0, 0)", x.jumper(0, 0), Check.UNKNOWN);
        CHECK.due("new: flight(0, 0)", x.flight(0, 0), Check.UNKNOWN);
        CHECK.due("new: roll(0, 0)", x.roll(0, 0), Check.NONE);
        CHECK.due("new: leap(0, 0)", x.leap(0, 0), Check.UNKNOWN);
        CHECK.due("new: hour(1)", x.hour(1), Check.NOT);
        CHECK.due("new: drift(1)", x.drift(1), Check.NOT);
        CHECK.due("new: undo()", x.undo(), Check.NOT);
        CHECK.due("new: posts(0, -1)", x.posts(0, -1), Check.UNKNOWN);
        CHECK.due("new: parted(0, 1)", x.parted(0, 1), Check.UNKNOWN);
        CHECK.due("new: judge()", x.judge(), Check.NONE);
        CHECK.due("new: seed(0)", x.seed(0), 0);
        CHECK.due("new: goBack(0)", x.goBack(0), Check.NOT);
    }

    private static void promise2Feed() {
        Play x = new Play();
        CHECK.refused("feed(-1)", x, y -> y.feed(-1), Check.OUTSIDE);
        CHECK.refused("feed(256)", x, y -> y.feed(256), Check.OUTSIDE);
        CHECK.due("feed(0)", x.feed(0), 1);
        CHECK.due("feed(255)", x.feed(255), 2);
        for (int i = 3; i <= 240; i++) {
            CHECK.due("feed the letter " + i, x.feed(32), i);
        }
        CHECK.refused("feed the letter 241", x, y -> y.feed(32), Check.FULL);
        CHECK.refused("feed(256) when full", x, y -> y.feed(256), Check.OUTSIDE);
        CHECK.due("town()", x.town(), -11);
        CHECK.due("feed behind town()", x.feed('n'), 1);
    }

    private static void promise3Town() {
        Play x = Check.of(TOWN);
        x.hour(3);
        x.leap(0, 0);
        x.leap(3, 4);
        x.talk(1, 7);
        x.see(7, true);
        x.write(0, 0);
        x.keep(0);
        x.rest(2);
        x.seed(77);
        x.tell("n3;b0 1 9 8;k0 1;k1 2;j2 1;");
        CHECK.due("town() anew", x.town(), 1);
        CHECK.due("text is empty", x.told(4), 0);
        CHECK.due("places", x.told(0), 3);
        CHECK.due("hours", x.told(5), 0);
        CHECK.due("roll", x.told(11), 0);
        CHECK.due("seen", x.told(12), 0);
        CHECK.due("quick(0)", x.quick(0), 40);
        CHECK.due("book", x.told(13), 0);
        CHECK.due("to undo", x.told(14), 0);
        CHECK.due("image is gone", x.goBack(0), Check.NOT);
        CHECK.due("keeper 0 is posted", x.keeper(0, 2), 0);
        CHECK.due("keeper 1 has no bridge", x.keeper(1, 2), Check.NONE);
        CHECK.due("nobody is tired", x.keeper(0, 3), 0);
        CHECK.due("in doubt", x.jumper(0, 2), 0);
        CHECK.due("over", x.jumper(0, 3), 0);
        CHECK.due("dried", x.jumper(0, 4), 0);
        CHECK.due("place", x.jumper(0, 1), 1);
        CHECK.due("the seed stays", x.seed(0), 77);
        x = Check.of("n2;k0 1;k0 2;b0 1 2 0;");
        CHECK.due("posted when the text ends", x.keeper(0, 2), 0);
        CHECK.due("none for keeper 1", x.keeper(1, 2), Check.NONE);
    }

    private static void promise3KeepsAllElseWithAFault() {
        Play x = Check.of(TOWN);
        x.keep(1);
        x.leap(0, 0);
        x.hour(1);
        x.see(7, true);
        x.write(0, 0);
        String before = Picture.withoutText(x);
        x.tell("n3;b0 1 9 8");
        CHECK.due("town() with a fault", x.town(), -11);
        CHECK.due("fault()", x.fault(), 11);
        CHECK.due("the text is empty", x.told(4), 0);
        CHECK.holds("with a fault all else is as it was", Picture.withoutText(x).equals(before));
        CHECK.due("undo() behind a fault", x.undo(), 1);
        CHECK.due("goBack(1) behind a fault", x.goBack(1), 1);
        x.town();
        CHECK.due("the latest town() had no fault", x.fault(), Check.NONE);
    }

    private static void promise3EmptyText() {
        for (String text : new String[] {"", "     "}) {
            Play x = Check.of(TOWN);
            x.leap(0, 0);
            x.keep(0);
            x.see(3, true);
            x.write(0, 1);
            x.tell(text);
            CHECK.due("town() of '" + text + "'", x.town(), 0);
            CHECK.due("fault()", x.fault(), Check.NONE);
            for (int what = 0; what <= 14; what++) {
                CHECK.due("no town: told(" + what + ")", x.told(what), what == 10 ? Check.NONE : 0);
            }
            CHECK.due("no town: hour(1)", x.hour(1), Check.NOT);
            CHECK.due("no town: goBack(0)", x.goBack(0), Check.NOT);
        }
    }

    private static void promise3AnewOnOneObject() {
        Play x = Check.of("n2;b0 1 2 0;k0 40;j0 0;");
        x.leap(0, 0);
        x.talk(0, 9);
        again(x, "n2;b0 1 2 0;k0 40;j0 0;x", -11, 23);
        CHECK.due("doubt behind a fault", x.jumper(0, 2), 9);
        again(x, "n2", -11, 2);
        again(x, "n2   ", -11, 5);
        again(x, "n2", -11, 2);
        again(x, "n222", -12, 1);
        again(x, "n2 ;b0 1 2 0;k0 40;j0 0;", 1, Check.NONE);
        CHECK.due("doubt in a new town", x.jumper(0, 2), 0);
        CHECK.due("dried in a new town", x.jumper(0, 4), 0);
        again(x, "n3;", 0, Check.NONE);
        CHECK.due("no bridges", x.told(1), 0);
        CHECK.due("no jumpers", x.jumper(0, 0), Check.UNKNOWN);
    }

    private static void again(Play x, String text, int answer, int at) {
        x.tell(text);
        CHECK.due("anew: town() of '" + text + "'", x.town(), answer);
        CHECK.due("anew: fault() of '" + text + "'", x.fault(), at);
    }

    private static void fault(String text, int number, int at) {
        Play x = new Play();
        x.tell(text);
        CHECK.due("town() of '" + text + "'", x.town(), -10 - number);
        CHECK.due("fault() of '" + text + "'", x.fault(), at);
        CHECK.due("letters behind '" + text + "'", x.told(4), 0);
    }

    private static void good(String text, int bridges) {
        Play x = new Play();
        x.tell(text);
        CHECK.due("town() of '" + text + "'", x.town(), bridges);
        CHECK.due("fault() of '" + text + "'", x.fault(), Check.NONE);
    }

    private static void promise4Faults() {
        good("n2;", 0);
        good("n8;", 0);
        good("  n  2  ;  ", 0);
        good("n002;b000 001 02 099;", 1);
        good("n2;b 0 1 40 0 ;k3 40;k 0 1;j3 1;", 1);
        fault("x", 1, 0);
        fault("  x", 1, 2);
        fault("5", 1, 0);
        fault(";", 1, 0);
        fault("b0 1 2 0;", 1, 0);
        fault("n", 1, 1);
        fault("n ", 1, 2);
        fault("n;", 1, 1);
        fault("n2", 1, 2);
        fault("n2  ", 1, 4);
        fault("n2 2;", 1, 3);
        fault("n2 2222;", 1, 3);
        fault("n2n", 1, 2);
        fault("n2;;", 1, 3);
        fault("n2;x", 1, 3);
        fault("n2;3", 1, 3);
        fault("n2;N", 1, 3);
        fault("n2;b0,1 2 0;", 1, 5);
        fault("n2;b0 1 2;", 1, 9);
        fault("n2;b0 1 2 0 0;", 1, 12);
        fault("n2;b0 1 2 0", 1, 11);
        fault("n2;b0 -1 2 0;", 1, 6);
        fault("n2;j0 n", 1, 6);
        fault("n2;" + (char) 9, 1, 3);
        fault("n2;" + (char) 0, 1, 3);
        fault("n2;" + (char) 255, 1, 3);
    }

    private static void promise4MoreFaults() {
        fault("n0;", 2, 1);
        fault("n1;", 2, 1);
        fault("n9", 2, 1);
        fault("n0002;", 2, 1);
        fault("n99999999999999999999;", 2, 1);
        fault("n4294967298;", 2, 1);
        fault("n2;b2 0 2 0;", 2, 4);
        fault("n2;b2 2 2 0;", 2, 4);
        fault("n2;b0 2 2 0;", 2, 6);
        fault("n2;b0 1 1 0;", 2, 8);
        fault("n2;b0 1 41 0;", 2, 8);
        fault("n2;b0 1 2 100;", 2, 10);
        fault("n2;b01 1 2 0;", 4, 7);
        fault("n2;b0001 1 2 0;", 2, 4);
        fault("n2;k4 1;", 2, 4);
        fault("n2;k0 0;", 2, 6);
        fault("n2;k0 41x", 2, 6);
        fault("n2;j4 0;", 2, 4);
        fault("n2;j0 2;", 2, 6);
        fault("n2; n", 3, 4);
        fault("n2;n2;", 3, 3);
        String bridges = "n8;b0 1 2 0;b0 2 2 0;b0 3 2 0;b0 4 2 0;b0 5 2 0;b0 6 2 0;b0 7 2 0;b1 2 2 0;b1 3 2 0;";
        good(bridges, 9);
        fault(bridges + "b", 3, bridges.length());
        fault(bridges + "b0 0 2 0;", 3, bridges.length());
        String keepers = "n2;k0 1;k0 1;k0 1;k0 1;k0 1;k0 1;k0 1;k0 1;k0 1;";
        good(keepers, 0);
        fault(keepers + "k", 3, keepers.length());
        String jumpers = "n2;j0 0;j0 0;j0 0;j0 0;j0 0;j0 0;";
        good(jumpers, 0);
        fault(jumpers + " j", 3, jumpers.length() + 1);
        fault("n2;b0 0 2 0;", 4, 6);
        fault("n2;b0 0", 4, 6);
        fault("n2;b0 0 1 0;", 4, 6);
        fault("n2;b0 1 2 0;b0 1 2 0;", 4, 15);
        fault("n2;b0 1 2 0;b1 0 2 0;", 4, 15);
        fault("n3;b0 1 2 0;b1 2 2 0;b2 001 2 0;", 4, 24);
        good("n3;b0 1 2 0;b1 2 2 0;b2 0 2 0;", 3);
    }

    private static void promise5Told() {
        Play x = Check.of(TOWN);
        CHECK.refused("told(-1)", x, y -> y.told(-1), Check.OUTSIDE);
        CHECK.refused("told(15)", x, y -> y.told(15), Check.OUTSIDE);
        x.tell("n2");
        int[] first = {5, 5, 4, 4, 2, 0, 4, 16, 3, 0, 0, 0, 0, 0, 0};
        for (int what = 0; what < first.length; what++) {
            CHECK.due("told(" + what + ")", x.told(what), first[what]);
        }
        x.leap(3, 4); // dried: nobody is there
        x.leap(0, 0);
        x.leap(1, 0);
        x.talk(1, 30);
        x.leap(1, 0); // dried: 1 over, 1 dried is no trust
        x.rest(3);
        x.hour(2);
        x.see(3, false);
        x.write(1, 1);
        x.write(1, 1);
        int[] then = {5, 5, 4, 4, 2, 2, 3, 16, 3, 1, 0, 4, 1, 2, 7};
        for (int what = 0; what < then.length; what++) {
            CHECK.due("then told(" + what + ")", x.told(what), then[what]);
        }
        x.leap(0, 4); // refused
        x.talk(0, 30);
        x.rest(0);
        x.leap(0, 0);
        CHECK.due("driest is 2, as 0 was dried too", x.told(10), 2);
        CHECK.due("nobody is trusted", x.told(9), 0);
    }

    private static void promise5BottlesAndFar() {
        CHECK.due("bottles of a line", Check.of("n4;b0 1 2 0;b1 2 2 0;b2 3 2 0;").told(7), 7);
        CHECK.due("far of a line", Check.of("n4;b0 1 2 0;b1 2 2 0;b2 3 2 0;").told(8), 3);
        CHECK.due("bottles of a ring", Check.of("n4;b0 1 2 0;b1 2 2 0;b2 3 2 0;b3 0 2 0;").told(7), 0);
        CHECK.due("far of a ring", Check.of("n4;b0 1 2 0;b1 2 2 0;b2 3 2 0;b3 0 2 0;").told(8), 2);
        Play parts = Check.of("n8;b0 1 2 0;b2 3 2 0;b3 4 2 0;b2 4 2 0;b4 5 2 0;");
        CHECK.due("bottles of a town in parts", parts.told(7), 17);
        CHECK.due("far of a town in parts", parts.told(8), 2);
        CHECK.due("far without bridges", Check.of("n8;").told(8), 0);
        CHECK.due("far of a long line",
            Check.of("n8;b7 6 2 0;b6 5 2 0;b5 4 2 0;b4 3 2 0;b3 2 2 0;b2 1 2 0;b1 0 2 0;").told(8), 7);
    }

    private static void promise6Bridge() {
        Play x = Check.of("n3;b2 1 10 5;b1 0 6 99;k2 9;");
        int[][] due = {{2, 1, 10, 5, 0, 9}, {1, 0, 6, 99, Check.NONE, Check.NONE}};
        for (int b = 0; b < 2; b++) {
            for (int what = 0; what < 6; what++) {
                CHECK.due("bridge(" + b + ", " + what + ")", x.bridge(b, what), due[b][what]);
            }
        }
        x.leap(0, 0);
        x.post(0, 1);
        CHECK.due("keeper of 0 is gone", x.bridge(0, 4), Check.NONE);
        CHECK.due("keeper of 1", x.bridge(1, 4), 0);
        CHECK.due("time at 1", x.bridge(1, 5), 9);
        CHECK.refused("bridge(2, 0)", x, y -> y.bridge(2, 0), Check.UNKNOWN);
        CHECK.refused("bridge(-1, 0)", x, y -> y.bridge(-1, 0), Check.UNKNOWN);
        CHECK.refused("bridge(2, 9)", x, y -> y.bridge(2, 9), Check.UNKNOWN);
        CHECK.refused("bridge(0, 6)", x, y -> y.bridge(0, 6), Check.OUTSIDE);
        CHECK.refused("bridge(0, -1)", x, y -> y.bridge(0, -1), Check.OUTSIDE);
    }

    private static void promise7Keeper() {
        Play x = Check.of("n5;b0 1 2 0;b0 2 2 0;b0 3 2 0;b0 4 2 0;k0 10;k1 11;k2 12;k3 13;k0 14;j0 0;");
        for (int k = 0; k < 5; k++) {
            CHECK.due("kind of " + k, x.keeper(k, 0), k % 4);
            CHECK.due("need of " + k, x.keeper(k, 1), 10 + k);
            CHECK.due("bridge of " + k, x.keeper(k, 2), k < 4 ? k : Check.NONE);
            CHECK.due("tired of " + k, x.keeper(k, 3), 0);
            CHECK.due("time of " + k, x.keeper(k, 4), 10 + k);
        }
        for (int leaps = 1; leaps <= 5; leaps++) {
            for (int b = 0; b < 4; b++) {
                CHECK.due("nobody comes over", x.leap(0, b), 0);
            }
            CHECK.due("exact", x.keeper(0, 4), 10);
            CHECK.due("young", x.keeper(1, 4), 11);
            CHECK.due("old", x.keeper(2, 4), 12 + leaps);
            CHECK.due("proud", x.keeper(3, 4), 13 + leaps / 3);
            CHECK.due("tired", x.keeper(3, 3), leaps);
        }
        x.hour(1);
        CHECK.due("exact in an odd hour", x.keeper(0, 4), 10);
        CHECK.due("young in an odd hour", x.keeper(1, 4), 13);
        CHECK.due("old an hour later", x.keeper(2, 4), 16);
        CHECK.due("proud an hour later", x.keeper(3, 4), 14);
        x.hour(1);
        CHECK.due("young in an even hour", x.keeper(1, 4), 11);
        CHECK.refused("keeper(5, 0)", x, y -> y.keeper(5, 0), Check.UNKNOWN);
        CHECK.refused("keeper(-1, 7)", x, y -> y.keeper(-1, 7), Check.UNKNOWN);
        CHECK.refused("keeper(0, 5)", x, y -> y.keeper(0, 5), Check.OUTSIDE);
        CHECK.refused("keeper(0, -1)", x, y -> y.keeper(0, -1), Check.OUTSIDE);
    }

    private static void promise8Jumper() {
        Play x = Check.of(TOWN);
        for (int j = 0; j < 4; j++) {
            CHECK.due("kind", x.jumper(j, 0), j);
            CHECK.due("place", x.jumper(j, 1), new int[] {0, 0, 2, 3}[j]);
            CHECK.due("doubt", x.jumper(j, 2), 0);
            CHECK.due("over", x.jumper(j, 3), 0);
            CHECK.due("dried", x.jumper(j, 4), 0);
            CHECK.due("dares", x.jumper(j, 5), j < 3 ? 15 : 1);
        }
        x.talk(1, 3);
        CHECK.due("a stranger in doubt dares", x.jumper(1, 5), 5);
        x.leap(1, 0);
        x.leap(1, 1);
        CHECK.due("over once", x.jumper(1, 3), 1);
        CHECK.due("dried once", x.jumper(1, 4), 1);
        CHECK.due("doubt 3, 2, 4", x.jumper(1, 2), 4);
        x.rest(2);
        CHECK.due("nobody is at 2", x.jumper(0, 5), 11);
        CHECK.refused("jumper(4, 0)", x, y -> y.jumper(4, 0), Check.UNKNOWN);
        CHECK.refused("jumper(-1, 9)", x, y -> y.jumper(-1, 9), Check.UNKNOWN);
        CHECK.refused("jumper(0, 6)", x, y -> y.jumper(0, 6), Check.OUTSIDE);
        CHECK.refused("jumper(0, -1)", x, y -> y.jumper(0, -1), Check.OUTSIDE);
    }

    private static void promise9Flight() {
        Play x = Check.of("n3;b0 1 13 0;b0 2 2 0;j0 0;j1 0;j2 0;j3 0;");
        int[][] calm = {{13, 2}, {13, 2}, {13, 2}, {6, 1}};
        int[][] doubting = {{13, 2}, {8, 0}, {11, 0}, {6, 1}};
        int[][] oddHour = {{13, 2}, {9, 0}, {10, 0}, {6, 1}};
        flights(x, "calm", calm);
        for (int j = 0; j < 4; j++) {
            x.talk(j, 5);
        }
        flights(x, "in doubt", doubting);
        x.hour(1);
        flights(x, "in an odd hour", oddHour);
        x.talk(1, 30);
        x.talk(2, 30);
        CHECK.due("a stranger in deep doubt", x.flight(1, 0), 0);
        CHECK.due("a girl in deep doubt", x.flight(2, 0), 0);
        CHECK.refused("flight(4, 0)", x, y -> y.flight(4, 0), Check.UNKNOWN);
        CHECK.refused("flight(-1, 0)", x, y -> y.flight(-1, 0), Check.UNKNOWN);
        CHECK.refused("flight(0, 2)", x, y -> y.flight(0, 2), Check.UNKNOWN);
        CHECK.refused("flight(0, -1)", x, y -> y.flight(0, -1), Check.UNKNOWN);
    }

    private static void flights(Play x, String when, int[][] due) {
        for (int j = 0; j < 4; j++) {
            for (int b = 0; b < 2; b++) {
                CHECK.due(when + ": flight(" + j + ", " + b + ")", x.flight(j, b), due[j][b]);
            }
        }
    }

    private static void promise10Roll() {
        Play x = Check.of("n8;b0 1 2 0;b0 2 2 0;b0 3 2 0;b0 4 2 0;b0 5 2 0;b0 6 2 0;b0 7 2 0;b6 1 2 0;b6 2 2 0;"
            + "k0 1;k0 40;k0 40;k0 40;k0 40;k0 40;k0 40;k0 1;j0 0;j0 0;j0 0;j0 0;j0 0;j0 0;");
        int leaps = 0;
        for (int i = 0; i < 25; i++) {
            int j = i % 6;
            int b = i % 5 == 0 ? 0 : 1 + i % 6;
            x.talk(j, 0);
            for (int hours = 0; i == 12 && hours < 9060; hours += 60) {
                x.hour(60);
            }
            int got = x.leap(j, b);
            CHECK.holds("a leap of a calm one is made or not now", got == 0 || got == 1 || got == Check.NOT);
            if (got < 0) {
                continue;
            }
            leaps++;
            CHECK.due("roll has", x.told(11), Math.min(20, leaps));
            CHECK.due("roll(0, 0)", x.roll(0, 0), i < 12 ? 0 : 9060);
            CHECK.due("roll(0, 1)", x.roll(0, 1), j);
            CHECK.due("roll(0, 2)", x.roll(0, 2), b);
            CHECK.due("roll(0, 3)", x.roll(0, 3), got);
        }
        Play y = Check.of("n2;b0 1 2 0;k0 1;j0 0;j3 0;");
        for (int i = 0; i < 22; i++) {
            y.leap(i % 2, 0);
        }
        for (int i = 0; i < 20; i++) {
            CHECK.due("roll(" + i + ", 1)", y.roll(i, 1), (i + 1) % 2);
        }
        CHECK.due("roll(20, 1)", y.roll(20, 1), Check.NONE);
        CHECK.due("roll(-1, 1)", y.roll(-1, 1), Check.NONE);
        CHECK.due("roll(2147483647, 3)", y.roll(2147483647, 3), Check.NONE);
        CHECK.refused("roll(0, 4)", y, z -> z.roll(0, 4), Check.OUTSIDE);
        CHECK.refused("roll(0, -1)", y, z -> z.roll(0, -1), Check.OUTSIDE);
        CHECK.refused("roll(99, 4)", y, z -> z.roll(99, 4), Check.OUTSIDE);
    }
}
