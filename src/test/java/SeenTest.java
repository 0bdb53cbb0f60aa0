/** Promises 26 to 31: what is seen. */
public final class SeenTest {
    private static final Check CHECK = new Check("SeenTest");

    public static void main(String[] args) {
        promise26See();
        promise27Quick();
        promise28Watch();
        promise29Write();
        promise30Tear();
        promise31Judge();
        CHECK.end();
    }

    private static void promise26See() {
        Play x = new Play();
        CHECK.refused("see(-1, true)", x, y -> y.see(-1, true), Check.OUTSIDE);
        CHECK.refused("see(41, false)", x, y -> y.see(41, false), Check.OUTSIDE);
        for (int i = 1; i <= 6; i++) {
            CHECK.due("see()", x.see(i % 2 == 0 ? 0 : 40, i % 2 == 1), i);
            CHECK.due("told(12)", x.told(12), i);
        }
        CHECK.refused("a seventh", x, y -> y.see(3, true), Check.FULL);
        CHECK.refused("a seventh out of bounds", x, y -> y.see(41, true), Check.OUTSIDE);
    }

    private static void quick(Play x, int howMany, int least, int greatest) {
        CHECK.due("quick(0)", x.quick(0), howMany);
        CHECK.due("quick(1)", x.quick(1), least);
        CHECK.due("quick(2)", x.quick(2), greatest);
    }

    private static void promise27Quick() {
        Play x = new Play();
        quick(x, 40, 1, 40);
        x.see(30, true);
        quick(x, 30, 1, 30);
        x.see(10, false);
        quick(x, 20, 11, 30);
        x.see(35, true);
        x.see(5, false);
        quick(x, 20, 11, 30);
        x.see(11, true);
        quick(x, 1, 11, 11);
        x.see(11, false);
        quick(x, 0, Check.NONE, Check.NONE);
        Play y = new Play();
        y.see(0, true);
        quick(y, 0, Check.NONE, Check.NONE);
        y.tear();
        y.see(40, false);
        quick(y, 0, Check.NONE, Check.NONE);
        y.tear();
        y.see(40, true);
        y.see(0, false);
        quick(y, 40, 1, 40);
        y.see(1, true);
        quick(y, 1, 1, 1);
        y.tear();
        y.see(39, false);
        quick(y, 1, 40, 40);
        CHECK.refused("quick(-1)", y, z -> z.quick(-1), Check.OUTSIDE);
        CHECK.refused("quick(3)", y, z -> z.quick(3), Check.OUTSIDE);
    }

    /** By all stretches: the flight that leaves the smaller greatest part, tried one by one. */
    private static void promise28Watch() {
        for (int least = 1; least <= 40; least++) {
            for (int greatest = 0; greatest <= 40; greatest++) {
                Play x = new Play();
                x.see(least - 1, false);
                x.see(greatest, true);
                int best = Check.NONE;
                int bestPart = 0;
                for (int f = 0; f <= 40; f++) {
                    int over = 0;
                    int not = 0;
                    for (int r = least; r <= greatest; r++) {
                        over += r <= f ? 1 : 0;
                        not += r <= f ? 0 : 1;
                    }
                    boolean parts = over > 0 && not > 0;
                    if (parts && (best == Check.NONE || Math.max(over, not) < bestPart)) {
                        best = f;
                        bestPart = Math.max(over, not);
                    }
                }
                CHECK.due("watch() of " + least + " to " + greatest, x.watch(), best);
            }
        }
    }

    private static void promise29Write() {
        Play x = Check.of("n3;b0 1 2 0;k0 1;j0 0;j0 2;");
        CHECK.refused("write(2, 0)", x, y -> y.write(2, 0), Check.UNKNOWN);
        CHECK.refused("write(-1, 0)", x, y -> y.write(-1, 0), Check.UNKNOWN);
        CHECK.refused("write(0, 3)", x, y -> y.write(0, 3), Check.UNKNOWN);
        CHECK.refused("write(0, -1)", x, y -> y.write(0, -1), Check.UNKNOWN);
        for (int i = 1; i <= 15; i++) {
            CHECK.due("write()", x.write(i % 2, i % 3), i);
            CHECK.due("told(13)", x.told(13), i);
        }
        CHECK.refused("a sixteenth", x, y -> y.write(0, 0), Check.FULL);
        CHECK.refused("a sixteenth of nobody", x, y -> y.write(2, 0), Check.UNKNOWN);
        CHECK.refused("no town", new Play(), y -> y.write(0, 0), Check.UNKNOWN);
    }

    private static void promise30Tear() {
        Play x = Check.of("n3;j0 0;");
        CHECK.due("tear() of nothing", x.tear(), 0);
        x.see(1, true);
        x.see(2, true);
        x.write(0, 1);
        CHECK.due("tear()", x.tear(), 3);
        CHECK.due("seen", x.told(12), 0);
        CHECK.due("book", x.told(13), 0);
        quick(x, 40, 1, 40);
        CHECK.due("judge()", x.judge(), Check.NONE);
        CHECK.due("tear() again", x.tear(), 0);
        CHECK.due("tear() is not to be undone", x.told(14), 0);
    }

    private static void promise31Judge() {
        Play x = Check.of("n3;b0 1 2 0;b1 2 2 0;k0 1;k0 1;j0 0;j0 2;");
        CHECK.due("judge() of an empty book", x.judge(), Check.NONE);
        x.write(0, 0);
        x.write(1, 2);
        CHECK.due("judge()", x.judge(), Check.NONE);
        x.write(0, 1);
        x.write(1, 1);
        CHECK.due("judge() of one behind", x.judge(), 2);
        x.leap(1, 1);
        CHECK.due("judge() of an earlier one", x.judge(), 1);
        x.leap(0, 0);
        CHECK.due("judge() of the first", x.judge(), 0);
        x.undo();
        x.undo();
        CHECK.due("judge() as it was", x.judge(), 2);
    }
}
