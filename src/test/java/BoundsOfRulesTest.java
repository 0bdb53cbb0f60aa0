/** Section 2 and promises 6 to 18: keepers, jumpers, leaps, hours, on the bounds of what they count. */
public final class BoundsOfRulesTest {
    private static final Check CHECK = new Check("BoundsOfRulesTest");
    private static final int NONE = Check.NONE, NOT = Check.NOT;
    /** By the keeper's four kinds: exact, young, old, proud; nobody comes over, so leaps are made in one place. */
    private static final String FOUR_KINDS = "n5;b0 1 2 0;b0 2 2 0;b0 3 2 0;b0 4 2 0;k0 40;k1 40;k2 40;k3 40;j0 0;";

    public static void main(String[] args) {
        oneAtMostAtEach();
        tiredAtMost();
        tiredAtLeast();
        tiredOfThoseAtNone();
        hourOfTheNinthKeeper();
        timeOfExactAndYoung();
        timeOfOldAndProud();
        doubtAtMost();
        doubtAtLeast();
        doubtOfAnHour();
        flightOfCalmAndCart();
        flightOfAStranger();
        flightOfAGirl();
        overByTimeAndFlight();
        driedWithoutAKeeper();
        overStaysOrGoes();
        counted();
        rollKeepsTwenty();
        rollTellsAll();
        oddAndEvenHours();
        needAtLeast();
        posted();
        rested();
        CHECK.end();
    }

    private static Play with(int leaps, String text) {
        Play x = Check.of(text);
        for (int i = 0; i < leaps; i++) {
            x.leap(0, 0);
        }
        return x;
    }

    private static void oneAtMostAtEach() {
        CHECK.about("2: A KEEPER is at one BRIDGE, or at none; one at most at each");
        Play x = Check.of("n3;b0 1 9 0;b1 2 9 0;k0 1;k0 1;k0 1;");
        CHECK.due("post(2, 0) where 0 is", x.post(2, 0), NOT);
        CHECK.due("rest(0)", x.rest(0), 0);
        CHECK.due("post(2, 0) where nobody is", x.post(2, 0), NONE);
        CHECK.due("post(0, 0) where 2 is", x.post(0, 0), NOT);
        CHECK.due("rest(1)", x.rest(1), 1);
        CHECK.due("post(2, 1) from bridge 0", x.post(2, 1), 0);
        CHECK.due("nobody is at 0", x.bridge(0, 4), NONE);
        CHECK.due("he is at 1", x.bridge(1, 4), 2);
        CHECK.due("one bridge has a keeper", x.told(6), 1);
    }

    private static void tiredAtMost() {
        CHECK.about("2: TIRED to 99; the KEEPER there is 1 more TIRED");
        for (int leaps : new int[] {0, 1, 2, 97, 98, 99, 100, 101, 150}) {
            for (int need : new int[] {1, 40}) {
                Play x = with(leaps, "n2;b0 1 40 0;k0 " + need + ";j0 0;");
                CHECK.due("tired by " + leaps + " leaps", x.keeper(0, 3), Math.min(99, leaps));
            }
        }
        Play dried = with(120, "n2;b0 1 2 0;k2 40;j0 0;");
        CHECK.due("tired by 120 dried", dried.keeper(0, 3), 99);
        CHECK.due("dried", dried.jumper(0, 4), 120);
        CHECK.due("an hour later", dried.hour(1), 1);
        CHECK.due("one less than 99", dried.keeper(0, 3), 98);
    }

    private static void tiredAtLeast() {
        CHECK.about("2: AN HOUR: all others 1 less (0 at least)");
        for (int leaps = 0; leaps <= 4; leaps++) {
            for (int hours = 1; hours <= 6; hours++) {
                Play x = with(leaps, "n2;b0 1 2 0;k0 40;j0 0;");
                x.hour(hours);
                CHECK.due("tired by " + leaps + ", " + hours + " hours later", x.keeper(0, 3), Math.max(0, leaps - hours));
            }
        }
    }

    private static void tiredOfThoseAtNone() {
        CHECK.about("2: AN HOUR: KEEPERS who are at none are 3 less TIRED (0 at least)");
        for (int leaps = 0; leaps <= 10; leaps++) {
            for (int hours = 1; hours <= 4; hours++) {
                Play x = with(leaps, "n2;b0 1 2 0;k0 40;j0 0;");
                x.rest(0);
                x.hour(hours);
                CHECK.due("tired by " + leaps + ", " + hours + " hours later", x.keeper(0, 3), Math.max(0, leaps - 3 * hours));
            }
        }
    }

    private static void hourOfTheNinthKeeper() {
        CHECK.about("2: AN HOUR: all KEEPERS, be they more than BRIDGES and JUMPERS");
        for (int k = 0; k < 9; k++) {
            Play x = Check.of("n2;b0 1 2 0;" + "k0 40;".repeat(9) + "j0 0;");
            x.rest(0);
            x.post(k, 0);
            for (int i = 0; i < 5; i++) {
                x.leap(0, 0);
            }
            x.hour(1);
            CHECK.due("keeper " + k + " at his bridge", x.keeper(k, 3), 4);
            x.rest(k);
            x.hour(1);
            CHECK.due("keeper " + k + " at none", x.keeper(k, 3), 1);
        }
    }

    private static void timeOfExactAndYoung() {
        CHECK.about("2: TIME: 0 (exact) R. 1 (young) R, and 2 in HOURS of an odd number");
        for (int need : new int[] {1, 2, 39, 40}) {
            Play x = Check.of("n3;b0 1 2 0;b0 2 2 0;k0 " + need + ";k1 " + need + ";j0 0;");
            for (int hours = 0; hours <= 5; hours++) {
                CHECK.due("exact in hour " + hours, x.keeper(0, 4), need);
                CHECK.due("young in hour " + hours, x.keeper(1, 4), hours % 2 == 0 ? need : need + 2);
                CHECK.due("young at his bridge in hour " + hours, x.bridge(1, 5), hours % 2 == 0 ? need : need + 2);
                x.hour(1);
            }
        }
        Play tired = with(50, "n2;b0 1 2 0;k1 40;j0 0;");
        CHECK.due("young and tired", tired.keeper(0, 4), 40);
        tired.hour(1);
        CHECK.due("young and tired in an odd hour", tired.keeper(0, 4), 42);
    }

    private static void timeOfOldAndProud() {
        CHECK.about("2: TIME: 2 (old) R, and TIRED. 3 (proud) R, and a third of TIRED (cut)");
        for (int need : new int[] {1, 40}) {
            Play old = Check.of("n2;b0 1 2 0;k2 " + need + ";j3 0;");
            Play proud = Check.of("n2;b0 1 2 0;k3 " + need + ";j3 0;");
            for (int tired = 0; tired <= 101; tired++) {
                int by = Math.min(99, tired);
                CHECK.due("old, tired by " + by, old.keeper(0, 4), need + by);
                CHECK.due("proud, tired by " + by, proud.keeper(0, 4), need + by / 3);
                CHECK.due("proud at his bridge, tired by " + by, proud.bridge(0, 5), need + by / 3);
                old.leap(0, 0);
                proud.leap(0, 0);
            }
        }
    }

    private static void doubtAtMost() {
        CHECK.about("2: DRIED: DOUBT is 2 more (30 at most)");
        for (int doubt = 0; doubt <= 30; doubt++) {
            for (int kind = 0; kind <= 3; kind++) {
                Play x = Check.of("n2;b0 1 2 0;k0 40;j" + kind + " 0;");
                x.talk(0, doubt);
                CHECK.due("leap()", x.leap(0, 0), 0);
                CHECK.due("doubt of " + doubt + " dried", x.jumper(0, 2), Math.min(30, doubt + 2));
            }
        }
        Play x = with(40, "n2;b0 1 2 0;j0 0;");
        CHECK.due("doubt of one dried forty times", x.jumper(0, 2), 30);
    }

    private static void doubtAtLeast() {
        CHECK.about("2: over: DOUBT 1 less (0 at least)");
        for (int doubt = 0; doubt <= 30; doubt++) {
            Play x = Check.of("n2;b0 1 40 0;k0 1;j0 0;");
            x.talk(0, doubt);
            CHECK.due("leap()", x.leap(0, 0), 1);
            CHECK.due("doubt of " + doubt + " over", x.jumper(0, 2), Math.max(0, doubt - 1));
        }
        CHECK.due("doubt of one over forty times", with(40, "n2;b0 1 40 0;k0 1;j0 0;").jumper(0, 2), 0);
    }

    private static void doubtOfAnHour() {
        CHECK.about("2: AN HOUR: DOUBT of each JUMPER where DOUBT is odd is 1 less");
        for (int doubt = 0; doubt <= 30; doubt++) {
            for (int hours = 1; hours <= 3; hours++) {
                Play x = Check.of("n2;" + "j0 0;".repeat(6));
                x.talk(0, doubt);
                x.talk(5, 30 - doubt);
                x.hour(hours);
                CHECK.due("doubt of " + doubt, x.jumper(0, 2), doubt - doubt % 2);
                CHECK.due("doubt of " + (30 - doubt), x.jumper(5, 2), 30 - doubt - doubt % 2);
                CHECK.due("doubt of 0", x.jumper(1, 2), 0);
            }
        }
    }

    private static int[] airs() {
        return new int[] {2, 3, 4, 5, 14, 15, 16, 29, 30, 31, 39, 40};
    }

    private static Play doubting(int kind, int air, int doubt, int hours) {
        Play x = Check.of("n2;b0 1 " + air + " 0;j" + kind + " 0;");
        if (hours > 0) {
            x.hour(hours);
        }
        x.talk(0, doubt);
        return x;
    }

    private static void flightOfCalmAndCart() {
        CHECK.about("2: FLIGHT: 0 (calm) AIR. 3 (cart) half of AIR (cut)");
        for (int air = 2; air <= 40; air++) {
            for (int doubt : new int[] {0, 1, 30}) {
                for (int hours = 0; hours <= 1; hours++) {
                    CHECK.due("calm, air " + air, doubting(0, air, doubt, hours).flight(0, 0), air);
                    CHECK.due("cart, air " + air, doubting(3, air, doubt, hours).flight(0, 0), air / 2);
                }
            }
        }
    }

    private static void flightOfAStranger() {
        CHECK.about("2: FLIGHT: 1 (stranger) AIR less DOUBT. It is 0 at least");
        for (int air : airs()) {
            for (int doubt = 0; doubt <= 30; doubt++) {
                for (int hours = 0; hours <= 1; hours++) {
                    CHECK.due("air " + air + ", doubt " + doubt,
                        doubting(1, air, doubt, hours).flight(0, 0), doubt > air ? 0 : air - doubt);
                }
            }
        }
    }

    private static void flightOfAGirl() {
        CHECK.about("2: FLIGHT: 2 (girl) AIR less half of DOUBT (cut), and 1 less in HOURS of an odd number. It is 0 at least");
        for (int air : airs()) {
            for (int doubt = 0; doubt <= 30; doubt++) {
                for (int hours = 0; hours <= 3; hours++) {
                    int less = doubt / 2 + hours % 2;
                    CHECK.due("air " + air + ", doubt " + doubt + ", hour " + hours,
                        doubting(2, air, doubt, hours).flight(0, 0), less > air ? 0 : air - less);
                }
            }
        }
        CHECK.due("air 2, doubt 3 is 1", doubting(2, 2, 3, 0).flight(0, 0), 1);
        CHECK.due("air 2, doubt 3, odd is 0", doubting(2, 2, 3, 1).flight(0, 0), 0);
        CHECK.due("air 2, doubt 5, odd is 0", doubting(2, 2, 5, 1).flight(0, 0), 0);
    }

    private static void overByTimeAndFlight() {
        CHECK.about("2: over, if there is a KEEPER whose TIME is FLIGHT or less");
        for (int air : airs()) {
            for (int need = Math.max(1, air - 1); need <= Math.min(40, air + 1); need++) {
                Play x = Check.of("n2;b0 1 " + air + " 0;k0 " + need + ";j0 0;");
                CHECK.due("dares: time " + need + ", flight " + air, x.jumper(0, 5), need <= air ? 1 : 0);
                CHECK.due("leap(): time " + need + ", flight " + air, x.leap(0, 0), need <= air ? 1 : 0);
            }
        }
        Play still = doubting(1, 2, 2, 0);
        CHECK.due("a flight of 0 dares nothing", still.jumper(0, 5), 0);
        Play quick = Check.of("n2;b0 1 2 0;k0 1;j1 0;");
        quick.talk(0, 1);
        CHECK.due("flight 1, time 1", quick.like().leap(0, 0), 1);
        quick.talk(0, 2);
        CHECK.due("flight 0, time 1", quick.like().leap(0, 0), 0);
        quick.talk(0, 30);
        CHECK.due("flight 0 still, time 1", quick.like().leap(0, 0), 0);
        Play old = Check.of("n2;b0 1 9 0;k2 7;j0 0;");
        CHECK.due("time 7", old.leap(0, 0), 1);
        CHECK.due("time 8", old.leap(0, 0), 1);
        CHECK.due("time 9 is the flight", old.leap(0, 0), 1);
        CHECK.due("time 10", old.leap(0, 0), 0);
    }

    private static void driedWithoutAKeeper() {
        CHECK.about("2: else it is DRIED: stays");
        Play x = Check.of("n2;b0 1 40 0;k0 1;j0 1;");
        x.rest(0);
        CHECK.due("leap() where nobody is", x.leap(0, 0), 0);
        CHECK.due("stays", x.jumper(0, 1), 1);
        CHECK.due("doubt", x.jumper(0, 2), 2);
        CHECK.due("over", x.jumper(0, 3), 0);
        CHECK.due("dried", x.jumper(0, 4), 1);
        CHECK.due("who is at none is not tired by it", x.keeper(0, 3), 0);
        CHECK.due("roll", x.roll(0, 3), 0);
    }

    private static void overStaysOrGoes() {
        CHECK.about("2: over: in the PLACE beyond");
        Play x = Check.of("n8;b7 3 9 0;b3 0 9 0;k0 1;k0 1;j0 7;");
        int[] bridges = {0, 1, 1, 0};
        int[] places = {3, 0, 3, 7};
        for (int i = 0; i < 4; i++) {
            CHECK.due("leap(0, " + bridges[i] + ")", x.leap(0, bridges[i]), 1);
            CHECK.due("place", x.jumper(0, 1), places[i]);
            CHECK.due("over", x.jumper(0, 3), i + 1);
        }
    }

    /** 999999 is beyond 512 calls: 60 leaps at most each drift(), and those for 9060 HOURS alone. */
    private static void counted() {
        CHECK.about("2: LEAPS over, and how often one was DRIED, are counted");
        Play over = Check.of("n2;b0 1 9 0;k0 9;j0 0;");
        Play dried = Check.of("n2;b0 1 9 0;k0 10;j0 0;");
        for (int i = 1; i <= 151; i++) {
            over.drift(60);
            dried.drift(60);
            CHECK.due("over", over.jumper(0, 3), 60 * i);
            CHECK.due("dried", dried.jumper(0, 4), 60 * i);
        }
        for (int i = 1; i <= 100; i++) {
            over.leap(0, 0);
            dried.leap(0, 0);
        }
        CHECK.due("over", over.jumper(0, 3), 9160);
        CHECK.due("never dried", over.jumper(0, 4), 0);
        CHECK.due("dried", dried.jumper(0, 4), 9160);
        CHECK.due("never over", dried.jumper(0, 3), 0);
    }

    private static void rollKeepsTwenty() {
        CHECK.about("2: ROLL keeps the latest 20");
        for (int leaps : new int[] {0, 1, 2, 18, 19, 20, 21, 22, 40, 41, 60}) {
            Play x = Check.of("n2;b0 1 9 0;k0 9;" + "j0 0;".repeat(6));
            for (int i = 1; i <= leaps; i++) {
                x.hour(1);
                x.leap(i % 6, 0);
            }
            int kept = Math.min(20, leaps);
            CHECK.due("roll has", x.told(11), kept);
            for (int i = 0; i < kept; i++) {
                CHECK.due("hour of " + i, x.roll(i, 0), leaps - i);
                CHECK.due("jumper of " + i, x.roll(i, 1), (leaps - i) % 6);
            }
            for (int what = 0; what < 4; what++) {
                CHECK.due("roll(" + kept + ", " + what + ")", x.roll(kept, what), NONE);
                CHECK.due("roll(-1, " + what + ")", x.roll(-1, what), NONE);
                CHECK.due("roll(20, " + what + ")", x.roll(20, what), NONE);
            }
        }
    }

    private static void rollTellsAll() {
        CHECK.about("2: ROLL: HOUR, JUMPER, BRIDGE, 1 over, 0 not");
        Play x = Check.of("n8;b0 1 9 0;b0 2 9 0;b0 3 9 0;b0 4 9 0;b0 5 9 0;b0 6 9 0;b0 7 9 0;b1 2 9 0;b1 3 9 0;"
            + "k0 9;k0 10;k0 9;k0 10;k0 9;k0 10;k0 9;k0 9;k0 10;j0 0;j0 0;j0 0;j0 0;j0 1;j0 1;");
        for (int i = 0; i < 150; i++) {
            x.hour(60);
        }
        int[][] leaps = {{0, 0, 1}, {5, 8, 0}, {1, 1, 0}, {4, 7, 1}, {2, 6, 1}, {3, 3, 0}, {4, 7, 1}, {4, 8, 0}};
        for (int i = 0; i < leaps.length; i++) {
            CHECK.due("leap()", x.leap(leaps[i][0], leaps[i][1]), leaps[i][2]);
            if (i == 3) {
                x.hour(60);
            }
        }
        for (int i = 0; i < leaps.length; i++) {
            int entry = leaps.length - 1 - i;
            CHECK.due("hour of " + entry, x.roll(entry, 0), i <= 3 ? 9000 : 9060);
            for (int what = 1; what <= 3; what++) {
                CHECK.due("roll(" + entry + ", " + what + ")", x.roll(entry, what), leaps[i][what - 1]);
            }
        }
    }

    private static void oddAndEvenHours() {
        CHECK.about("2: HOURS (0 at first) are one more; HOURS of an odd number");
        Play x = Check.of("n2;b0 1 9 0;k1 8;j2 0;");
        CHECK.due("hours at first", x.told(5), 0);
        for (int hours = 0; hours < 8; hours++) {
            CHECK.due("time in hour " + hours, x.bridge(0, 5), 8 + 2 * (hours % 2));
            CHECK.due("flight in hour " + hours, x.flight(0, 0), 9 - hours % 2);
            CHECK.due("hour(1)", x.hour(1), hours + 1);
        }
        for (int i = 0; i < 149; i++) {
            x.hour(60);
        }
        CHECK.due("hour(51)", x.hour(51), 8999);
        CHECK.due("time in hour 8999", x.bridge(0, 5), 10);
        CHECK.due("hour(1)", x.hour(1), 9000);
        CHECK.due("flight in hour 9000", x.flight(0, 0), 9);
        CHECK.due("hour(1)", x.hour(1), 9001);
        CHECK.due("flight in hour 9001", x.flight(0, 0), 8);
        CHECK.due("time in hour 9001", x.bridge(0, 5), 10);
    }

    private static void needAtLeast() {
        CHECK.about("2: TRAINED: R is 1 less (1 at least)");
        Play x = Check.of("n2;k0 40;k3 2;k0 1;");
        for (int need = 39; need >= 1; need--) {
            CHECK.due("train(0)", x.train(0), need);
            CHECK.due("R", x.keeper(0, 1), need);
        }
        CHECK.due("train(0) at 1", x.train(0), NOT);
        CHECK.due("R", x.keeper(0, 1), 1);
        CHECK.due("train(1)", x.train(1), 1);
        CHECK.due("train(1) at 1", x.train(1), NOT);
        CHECK.due("train(2) at 1", x.train(2), NOT);
        CHECK.due("R", x.keeper(2, 1), 1);
        CHECK.due("the latest, train(1), undone", x.undo(), 15);
        CHECK.due("R of the other", x.keeper(1, 1), 2);
        CHECK.due("train(1) once more", x.train(1), 1);
    }

    private static void posted() {
        CHECK.about("2: POSTED: a KEEPER comes to a BRIDGE (from where he is), where nobody is");
        Play x = with(5, FOUR_KINDS);
        x.rest(3);
        CHECK.due("post(0, 3)", x.post(0, 3), 0);
        CHECK.due("he is as tired as he was", x.keeper(0, 3), 5);
        CHECK.due("post(3, 0) from none", x.post(3, 0), NONE);
        CHECK.due("post(3, 0) again", x.post(3, 0), NOT);
        CHECK.due("four bridges have keepers", x.told(6), 4);
    }

    private static void rested() {
        CHECK.about("2: RESTED: to none");
        Play x = Check.of(FOUR_KINDS);
        for (int k = 0; k < 4; k++) {
            CHECK.due("rest(" + k + ")", x.rest(k), k);
            CHECK.due("rest(" + k + ") again", x.rest(k), NOT);
            CHECK.due("bridges with keepers", x.told(6), 3 - k);
            CHECK.due("time at his bridge", x.bridge(k, 5), NONE);
        }
    }
}
