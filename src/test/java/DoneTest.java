/** Promises 11 to 18: what is done. */
public final class DoneTest {
    private static final Check CHECK = new Check("DoneTest");
    private static final String TOWN =
        "n5;b0 1 10 5;b1 2 6 0;b2 3 12 20;b0 3 4 0;b3 4 20 50;k0 5;k1 6;k2 9;k3 4;j0 0;j1 0;j2 2;j3 3;";

    public static void main(String[] args) {
        promise11Leap();
        promise11LeapBounds();
        promise12Post();
        promise13Rest();
        promise14Train();
        promise15Talk();
        promise16Hour();
        promise16HourBounds();
        promise17Drift();
        promise17DriftJams();
        promise17DriftBounds();
        promise18Undo();
        promise18UndoEachCall();
        CHECK.end();
    }

    private static void promise11Leap() {
        Play x = Check.of(TOWN);
        CHECK.due("leap(0, 0)", x.leap(0, 0), 1);
        CHECK.due("beyond", x.jumper(0, 1), 1);
        CHECK.due("over", x.jumper(0, 3), 1);
        CHECK.due("keeper is tired", x.keeper(0, 3), 1);
        CHECK.due("leap(0, 0) back", x.leap(0, 0), 1);
        CHECK.due("home", x.jumper(0, 1), 0);
        CHECK.due("leap(1, 3): time 4 is the flight of 4", x.leap(1, 3), 1);
        x.leap(1, 3);
        x.talk(1, 1);
        CHECK.due("leap(1, 3): flight is 3", x.leap(1, 3), 0);
        CHECK.due("stays", x.jumper(1, 1), 0);
        CHECK.due("doubt 2 more", x.jumper(1, 2), 3);
        CHECK.due("dried", x.jumper(1, 4), 1);
        CHECK.due("over as before", x.jumper(1, 3), 2);
        CHECK.due("tired by one dried too", x.keeper(3, 3), 3);
        CHECK.due("leap(1, 0)", x.leap(1, 0), 1);
        CHECK.due("doubt 1 less", x.jumper(1, 2), 2);
        CHECK.due("leap(3, 4): nobody there", x.leap(3, 4), 0);
        CHECK.due("what can be undone", x.told(14), 8);
        CHECK.refused("leap(4, 0)", x, y -> y.leap(4, 0), Check.UNKNOWN);
        CHECK.refused("leap(-1, 0)", x, y -> y.leap(-1, 0), Check.UNKNOWN);
        CHECK.refused("leap(0, 5)", x, y -> y.leap(0, 5), Check.UNKNOWN);
        CHECK.refused("leap(0, -1)", x, y -> y.leap(0, -1), Check.UNKNOWN);
        CHECK.refused("leap(0, 2): not where it is", x, y -> y.leap(0, 2), Check.NOT);
    }

    private static void promise11LeapBounds() {
        Play x = Check.of("n2;b0 1 2 0;k2 40;j0 0;j0 1;");
        x.talk(0, 28);
        x.leap(0, 0);
        CHECK.due("doubt", x.jumper(0, 2), 30);
        x.leap(0, 0);
        CHECK.due("doubt is 30 at most", x.jumper(0, 2), 30);
        x.talk(0, 29);
        x.leap(0, 0);
        CHECK.due("doubt of 29", x.jumper(0, 2), 30);
        for (int i = 3; i < 99; i++) {
            x.leap(i % 2, 0);
        }
        CHECK.due("tired", x.keeper(0, 3), 99);
        x.leap(0, 0);
        CHECK.due("tired is 99 at most", x.keeper(0, 3), 99);
        CHECK.due("time of an old one", x.keeper(0, 4), 139);
        Play y = Check.of("n2;b0 1 2 0;k0 1;j0 0;");
        y.leap(0, 0);
        CHECK.due("doubt is 0 at least", y.jumper(0, 2), 0);
    }

    private static void promise12Post() {
        Play x = Check.of(TOWN);
        CHECK.refused("post(0, 0): he is there", x, y -> y.post(0, 0), Check.NOT);
        CHECK.refused("post(0, 1): another is there", x, y -> y.post(0, 1), Check.NOT);
        CHECK.due("post(0, 4)", x.post(0, 4), 0);
        CHECK.due("he is at 4", x.keeper(0, 2), 4);
        CHECK.due("nobody is at 0", x.bridge(0, 4), Check.NONE);
        CHECK.due("kept bridges", x.told(6), 4);
        CHECK.due("post(1, 0)", x.post(1, 0), 1);
        x.rest(2);
        CHECK.due("post(2, 2) from none", x.post(2, 2), Check.NONE);
        CHECK.due("he is at 2", x.bridge(2, 4), 2);
        CHECK.refused("post(4, 1)", x, y -> y.post(4, 1), Check.UNKNOWN);
        CHECK.refused("post(-1, 1)", x, y -> y.post(-1, 1), Check.UNKNOWN);
        CHECK.refused("post(0, 5)", x, y -> y.post(0, 5), Check.UNKNOWN);
        CHECK.refused("post(0, -1)", x, y -> y.post(0, -1), Check.UNKNOWN);
    }

    private static void promise13Rest() {
        Play x = Check.of(TOWN);
        CHECK.due("rest(2)", x.rest(2), 2);
        CHECK.due("he is at none", x.keeper(2, 2), Check.NONE);
        CHECK.due("nobody is there", x.bridge(2, 4), Check.NONE);
        CHECK.refused("rest(2) again", x, y -> y.rest(2), Check.NOT);
        CHECK.refused("rest(4)", x, y -> y.rest(4), Check.UNKNOWN);
        CHECK.refused("rest(-1)", x, y -> y.rest(-1), Check.UNKNOWN);
    }

    private static void promise14Train() {
        Play x = Check.of("n2;b0 1 2 0;k2 3;j0 0;");
        x.leap(0, 0);
        CHECK.due("train(0)", x.train(0), 2);
        CHECK.due("need", x.keeper(0, 1), 2);
        CHECK.due("time", x.keeper(0, 4), 3);
        CHECK.due("train(0)", x.train(0), 1);
        CHECK.refused("train(0) at 1", x, y -> y.train(0), Check.NOT);
        CHECK.refused("train(1)", x, y -> y.train(1), Check.UNKNOWN);
        CHECK.refused("train(-1)", x, y -> y.train(-1), Check.UNKNOWN);
    }

    private static void promise15Talk() {
        Play x = Check.of(TOWN);
        CHECK.due("talk(0, 30)", x.talk(0, 30), 0);
        CHECK.due("talk(0, 0)", x.talk(0, 0), 30);
        CHECK.due("talk(0, 7)", x.talk(0, 7), 0);
        CHECK.due("doubt", x.jumper(0, 2), 7);
        CHECK.due("talk(0, 7) again is done too", x.talk(0, 7), 7);
        CHECK.due("what can be undone", x.told(14), 4);
        CHECK.refused("talk(0, 31)", x, y -> y.talk(0, 31), Check.OUTSIDE);
        CHECK.refused("talk(0, -1)", x, y -> y.talk(0, -1), Check.OUTSIDE);
        CHECK.refused("talk(4, 31)", x, y -> y.talk(4, 31), Check.UNKNOWN);
        CHECK.refused("talk(-1, 0)", x, y -> y.talk(-1, 0), Check.UNKNOWN);
    }

    private static void promise16Hour() {
        Play x = Check.of(TOWN);
        for (int i = 0; i < 6; i++) {
            x.leap(0, 0);
            x.leap(1, 3);
        }
        x.rest(3);
        x.talk(0, 9);
        x.talk(2, 8);
        CHECK.due("hour(1)", x.hour(1), 1);
        CHECK.due("tired at a bridge", x.keeper(0, 3), 5);
        CHECK.due("tired at none", x.keeper(3, 3), 3);
        CHECK.due("tired is 0 at least", x.keeper(1, 3), 0);
        CHECK.due("odd doubt", x.jumper(0, 2), 8);
        CHECK.due("even doubt", x.jumper(2, 2), 8);
        CHECK.due("hour(3)", x.hour(3), 4);
        CHECK.due("tired at a bridge", x.keeper(0, 3), 2);
        CHECK.due("tired at none is 0 at least", x.keeper(3, 3), 0);
        CHECK.due("doubt", x.jumper(0, 2), 8);
        CHECK.due("hour(60)", x.hour(60), 64);
        CHECK.due("one to undo for sixty hours", x.undo(), 15);
        CHECK.due("hours", x.told(5), 4);
    }

    private static void promise16HourBounds() {
        Play x = Check.of("n2;");
        CHECK.refused("hour(0)", x, y -> y.hour(0), Check.OUTSIDE);
        CHECK.refused("hour(61)", x, y -> y.hour(61), Check.OUTSIDE);
        CHECK.refused("hour(-1)", x, y -> y.hour(-1), Check.OUTSIDE);
        for (int hours = 60; hours <= 9000; hours += 60) {
            CHECK.due("hour(60)", x.hour(60), hours);
        }
        CHECK.due("hour(1) at 9000", x.hour(1), 9001);
        CHECK.refused("hour(1) at 9001", x, y -> y.hour(1), Check.FULL);
        CHECK.refused("drift(1) at 9001", x, y -> y.drift(1), Check.FULL);
        CHECK.refused("hour(61) at 9001", x, y -> y.hour(61), Check.OUTSIDE);
        x.undo();
        CHECK.due("hour(60) at 9000", x.hour(60), 9060);
        Play none = new Play();
        CHECK.refused("no town: hour(1)", none, y -> y.hour(1), Check.NOT);
        CHECK.refused("no town: hour(0)", none, y -> y.hour(0), Check.OUTSIDE);
    }

    /** Draws by hand: the seeds from 5 on, three to an hour. */
    private static void promise17Drift() {
        Play x = Check.of(TOWN);
        x.seed(5);
        CHECK.due("drift(2)", x.drift(2), 2);
        long seed = 5;
        for (int i = 0; i < 6; i++) {
            seed = Math.floorMod(seed * 1103515245L + 12345L, 2147483648L);
        }
        CHECK.due("three draws an hour", x.seed(5), seed);
        Play y = Check.of(TOWN);
        y.seed(5);
        y.drift(1);
        y.drift(1);
        CHECK.holds("an hour at a time all is the same", Picture.ofSection2(x).equals(Picture.ofSection2(y)));
        Play empty = Check.of("n2;k0 1;j0 0;");
        empty.seed(9);
        CHECK.due("drift(3) without bridges", empty.drift(3), 3);
        CHECK.due("no draws", empty.seed(0), 9);
        Play nobody = Check.of("n2;b0 1 2 0;k0 1;");
        nobody.seed(9);
        CHECK.due("drift(3) without jumpers", nobody.drift(3), 3);
        CHECK.due("no draws", nobody.seed(0), 9);
    }

    /** One jumper, one bridge: each hour there is a leap, jammed if the third draw is less than Q. */
    private static void promise17DriftJams() {
        for (int q = 0; q <= 99; q += 33) {
            Play x = Check.of("n2;b0 1 9 " + q + ";k2 1;j3 0;");
            long seed = 31;
            x.seed(31);
            int place = 0;
            int doubt = 0;
            int tired = 0;
            int over = 0;
            int dried = 0;
            for (int hour = 0; hour < 40; hour++) {
                long luck = 0;
                for (int draw = 0; draw < 3; draw++) {
                    seed = Math.floorMod(seed * 1103515245L + 12345L, 2147483648L);
                    luck = seed / 65536 % 100;
                }
                boolean comes = luck >= q && 1 + tired <= 4;
                place = comes ? 1 - place : place;
                doubt = comes ? Math.max(0, doubt - 1) : Math.min(30, doubt + 2);
                over += comes ? 1 : 0;
                dried += comes ? 0 : 1;
                tired = Math.min(99, tired + 1) - 1;
                doubt -= doubt % 2;
                String when = "Q " + q + ", hour " + hour + ": ";
                CHECK.due(when + "drift(1)", x.drift(1), hour + 1);
                CHECK.due(when + "place", x.jumper(0, 1), place);
                CHECK.due(when + "doubt", x.jumper(0, 2), doubt);
                CHECK.due(when + "over", x.jumper(0, 3), over);
                CHECK.due(when + "dried", x.jumper(0, 4), dried);
                CHECK.due(when + "tired", x.keeper(0, 3), tired);
                CHECK.due(when + "roll's hour", x.roll(0, 0), hour);
                CHECK.due(when + "roll's over", x.roll(0, 3), comes ? 1 : 0);
                CHECK.due(when + "roll has", x.told(11), Math.min(20, hour + 1));
            }
        }
    }

    private static void promise17DriftBounds() {
        Play x = Check.of(TOWN);
        CHECK.refused("drift(0)", x, y -> y.drift(0), Check.OUTSIDE);
        CHECK.refused("drift(61)", x, y -> y.drift(61), Check.OUTSIDE);
        CHECK.due("drift(60)", x.drift(60), 60);
        Play none = new Play();
        CHECK.refused("no town: drift(1)", none, y -> y.drift(1), Check.NOT);
        CHECK.refused("no town: drift(61)", none, y -> y.drift(61), Check.OUTSIDE);
    }

    private static void promise18Undo() {
        Play x = Check.of(TOWN);
        CHECK.refused("undo() of nothing", x, Play::undo, Check.NOT);
        for (int i = 0; i < 20; i++) {
            x.talk(0, i + 1);
            CHECK.due("can be undone", x.told(14), Math.min(16, i + 1));
        }
        for (int i = 19; i >= 4; i--) {
            CHECK.due("undo()", x.undo(), i - 4);
            CHECK.due("doubt", x.jumper(0, 2), i);
        }
        CHECK.refused("the oldest are lost", x, Play::undo, Check.NOT);
        x.talk(0, 29);
        x.leap(0, 9);
        CHECK.due("a refused call is not undone", x.undo(), 0);
        CHECK.due("doubt", x.jumper(0, 2), 4);
    }

    private static void promise18UndoEachCall() {
        Play x = Check.of(TOWN);
        x.leap(1, 0);
        x.leap(3, 4);
        x.keep(0);
        x.see(4, true);
        x.write(0, 1);
        undone("leap() over", x, y -> y.leap(0, 0));
        undone("leap() dried", x, y -> y.leap(3, 4));
        undone("post()", x, y -> y.post(0, 4));
        undone("rest()", x, y -> y.rest(1));
        undone("train()", x, y -> y.train(1));
        undone("talk()", x, y -> y.talk(1, 12));
        undone("hour()", x, y -> y.hour(5));
        String before = Picture.of(x);
        x.seed(5);
        x.drift(60);
        x.see(9, true);
        x.write(2, 2);
        x.undo();
        CHECK.due("seen stays", x.told(12), 2);
        CHECK.due("the book stays", x.told(13), 2);
        CHECK.holds("the seed stays", x.seed(0) != 5);
        x.tear();
        x.see(4, true);
        x.write(0, 1);
        CHECK.holds("drift() is undone", Picture.of(x).equals(before));
    }

    private static void undone(String call, Play x, Check.Call made) {
        String before = Picture.of(x);
        CHECK.holds(call + " is done", made.on(x) >= Check.NONE);
        CHECK.holds(call + " changes something", !Picture.of(x).equals(before));
        CHECK.due("undo() of " + call, x.undo(), 0);
        CHECK.holds(call + " is undone", Picture.of(x).equals(before));
    }
}
