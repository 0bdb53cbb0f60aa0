/** Counts the answers that are not due, prints them, and ends the test with exit code 1 if there was one. */
final class Check {
    static final int NONE = LateBridges.NONE, UNKNOWN = LateBridges.UNKNOWN, OUTSIDE = LateBridges.OUTSIDE;
    static final int NOT = LateBridges.NOT, FULL = LateBridges.FULL;

    private final String name;
    private int asked;
    private int wrong;

    Check(String name) {
        this.name = name;
    }

    void due(String call, long got, long want) {
        asked++;
        if (got != want) {
            wrong++;
            System.out.println(name + ": " + call + " answered " + got + ", due is " + want);
        }
    }

    void holds(String what, boolean so) {
        asked++;
        if (!so) {
            wrong++;
            System.out.println(name + ": " + what);
        }
    }

    int wrong() {
        return wrong;
    }

    void end() {
        System.out.println(name + ": " + asked + " answers, " + wrong + " wrong");
        if (wrong != 0 || asked == 0) {
            System.exit(1);
        }
    }

    static void feed(LateBridges x, String text) {
        for (int i = 0; i < text.length(); i++) {
            x.feed(text.charAt(i));
        }
    }

    /** A new object with the town of a text. */
    static LateBridges of(String text) {
        LateBridges x = new LateBridges();
        feed(x, text);
        if (x.town() < 0) {
            throw new IllegalStateException("a test's text has a fault at " + x.fault() + ": " + text);
        }
        return x;
    }

    /** All that can be asked without changing anything, in one line: to see that a refused call changes nothing. */
    static String all(LateBridges x) {
        StringBuilder s = new StringBuilder();
        for (int what = 0; what <= 14; what++) {
            s.append(' ').append(x.told(what));
        }
        for (int n = 0; n < 9; n++) {
            s.append(" |");
            for (int what = 0; what <= 5; what++) {
                s.append(' ').append(x.bridge(n, what)).append(' ').append(x.keeper(n, what));
                s.append(' ').append(x.jumper(n, what));
            }
        }
        for (int i = 0; i < 20; i++) {
            for (int what = 0; what < 4; what++) {
                s.append(' ').append(x.roll(i, what));
            }
        }
        s.append(" | ").append(x.quick(0)).append(' ').append(x.quick(1)).append(' ').append(x.quick(2));
        s.append(' ').append(x.judge());
        int seed = x.seed(0);
        x.seed(seed);
        return s.append(' ').append(seed).toString();
    }

    interface Call {
        int on(LateBridges x);
    }

    /** A refusal: the answer is due, and nothing has changed. */
    void refused(String call, LateBridges x, Call made, int want) {
        String before = all(x);
        due(call, made.on(x), want);
        holds(call + " is refused but changes what is so", before.equals(all(x)));
    }
}
