import java.util.Random;

/** All promises: long runs of calls, by a fixed seed, on the class and on the model; each answer must be the same. */
public final class ModelTest {
    private static final Check CHECK = new Check("ModelTest");
    private static final int RUNS = 1500, CALLS = 512, MOST_WRONG = 20;
    private static final int CALLED = 38;

    private final Random random;
    private final LateBridges x = new LateBridges();
    private final Model model = new Model();
    private final int run;
    private int calls;

    private ModelTest(int run) {
        this.run = run;
        this.random = new Random(run);
    }

    public static void main(String[] args) {
        for (int run = 0; run < RUNS && CHECK.wrong() < MOST_WRONG; run++) {
            new ModelTest(run).go();
        }
        CHECK.end();
    }

    private void go() {
        tell();
        // Some of them make two calls.
        while (calls < CALLS - 1 && CHECK.wrong() < MOST_WRONG) {
            call(random.nextInt(CALLED));
        }
    }

    private void same(String call, int got, int due) {
        calls++;
        CHECK.holds("more than 512 calls", calls <= CALLS);
        CHECK.due("run " + run + ", call " + calls + ": " + call, got, due);
    }

    private void tell() {
        String text = text();
        int fed = Math.min(text.length(), CALLS - 2 - calls);
        for (int i = 0; i < fed; i++) {
            same("feed(" + (int) text.charAt(i) + ")", x.feed(text.charAt(i)), model.feed(text.charAt(i)));
        }
        if (calls <= CALLS - 2) {
            same("town() of '" + text + "'", x.town(), model.town());
            same("fault() of '" + text + "'", x.fault(), model.fault());
        }
    }

    /** A town's text; of four, one has a letter changed, left out or put in. */
    private String text() {
        StringBuilder s = new StringBuilder();
        int places = 2 + random.nextInt(7);
        s.append(blank()).append('n').append(places).append(';');
        boolean[][] joined = new boolean[places][places];
        int quick = 1 + random.nextInt(40);
        int wanted = full() ? 9 : random.nextInt(10);
        for (int tries = 0; tries < 50 && wanted > 0; tries++) {
            int a = random.nextInt(places);
            int b = random.nextInt(places);
            if (a != b && !joined[a][b]) {
                wanted--;
                joined[a][b] = true;
                joined[b][a] = true;
                s.append(blank()).append('b').append(a).append(' ').append(b).append(' ');
                s.append(2 + random.nextInt(39)).append(' ').append(jams()).append(';');
            }
        }
        for (int i = full() ? 9 : random.nextInt(10); i > 0; i--) {
            s.append('k').append(blank()).append(random.nextInt(4)).append(' ').append(1 + random.nextInt(quick)).append(';');
        }
        for (int i = full() ? 6 : random.nextInt(7); i > 0; i--) {
            s.append('j').append(random.nextInt(4)).append(' ').append(random.nextInt(places)).append(blank()).append(';');
        }
        if (random.nextInt(4) == 0) {
            spoil(s);
        }
        return s.toString();
    }

    private boolean full() {
        return random.nextInt(3) == 0;
    }

    private int jams() {
        return random.nextInt(3) == 0 ? random.nextInt(2) * 10 : random.nextInt(100);
    }

    private String blank() {
        return random.nextInt(20) == 0 ? " " : "";
    }

    private void spoil(StringBuilder s) {
        String signs = "nbkj; 0123456789x" + (char) 0 + (char) 255;
        for (int i = random.nextInt(3); i >= 0 && s.length() > 0; i--) {
            int at = random.nextInt(s.length());
            char sign = signs.charAt(random.nextInt(signs.length()));
            switch (random.nextInt(4)) {
                case 0 -> s.setCharAt(at, sign);
                case 1 -> s.deleteCharAt(at);
                case 2 -> s.insert(at, sign);
                default -> s.setLength(at);
            }
        }
    }

    /** Mostly from 0 to what is there, now and then beyond. */
    private int number(int most) {
        int kind = random.nextInt(60);
        if (kind == 0) return -1;
        if (kind == 1) return most + 1;
        if (kind == 2) return random.nextInt();
        return random.nextInt(most + 1);
    }

    private int bridge() {
        return number(Math.max(0, model.told(1) - 1));
    }

    private int keeper() {
        return number(Math.max(0, model.told(2) - 1));
    }

    private int jumper() {
        return number(Math.max(0, model.told(3) - 1));
    }

    private int place() {
        return number(Math.max(0, model.told(0) - 1));
    }

    private void call(int which) {
        if (which < 20) {
            callFirst(which);
        } else {
            callSecond(which);
        }
    }

    private void callFirst(int which) {
        int b = bridge();
        int k = keeper();
        int j = jumper();
        int n = number(14);
        switch (which) {
            case 0 -> same("told(" + n + ")", x.told(n), model.told(n));
            case 1 -> same("bridge(" + b + ", " + n % 6 + ")", x.bridge(b, n % 6), model.bridge(b, n % 6));
            case 2 -> same("keeper(" + k + ", " + n % 5 + ")", x.keeper(k, n % 5), model.keeper(k, n % 5));
            case 3 -> same("jumper(" + j + ", " + n % 6 + ")", x.jumper(j, n % 6), model.jumper(j, n % 6));
            case 4 -> same("flight(" + j + ", " + b + ")", x.flight(j, b), model.flight(j, b));
            case 5, 6 -> {
                int i = number(20);
                int what = number(3);
                same("roll(" + i + ", " + what + ")", x.roll(i, what), model.roll(i, what));
            }
            case 7, 8, 9, 10, 11, 12 -> same("leap(" + j + ", " + b + ")", x.leap(j, b), model.leap(j, b));
            case 13, 14 -> same("post(" + k + ", " + b + ")", x.post(k, b), model.post(k, b));
            case 15 -> same("rest(" + k + ")", x.rest(k), model.rest(k));
            case 16 -> same("train(" + k + ")", x.train(k), model.train(k));
            case 17 -> {
                int doubt = random.nextBoolean() ? 0 : number(30);
                same("talk(" + j + ", " + doubt + ")", x.talk(j, doubt), model.talk(j, doubt));
            }
            case 18 -> {
                int hours = number(random.nextInt(4) == 0 ? 60 : 4);
                same("hour(" + hours + ")", x.hour(hours), model.hours(hours, false));
            }
            default -> {
                int hours = number(60);
                same("drift(" + hours + ")", x.drift(hours), model.hours(hours, true));
            }
        }
    }

    private void callSecond(int which) {
        int b = bridge();
        int j = jumper();
        int p = place();
        int what = number(1);
        switch (which) {
            case 20, 21 -> same("undo()", x.undo(), model.undo());
            case 22, 23 -> same("way(" + j + ", " + p + ", " + what + ")", x.way(j, p, what), model.way(j, p, what));
            case 24, 25 -> same("safest(" + j + ", " + p + ", " + what + ")", x.safest(j, p, what), model.safest(j, p, what));
            case 26, 27 -> {
                int of = random.nextInt(4) == 0 ? LateBridges.NONE : b;
                same("posts(" + j + ", " + of + ")", x.posts(j, of), model.posts(j, of));
            }
            case 28 -> same("tires(" + j + ", " + b + ")", x.tires(j, b), model.tires(j, b));
            case 29 -> {
                int y = place();
                same("parted(" + p + ", " + y + ")", x.parted(p, y), model.parted(p, y));
            }
            case 30 -> {
                int v = number(99);
                int q = number(100);
                same("pays(" + v + ", " + q + ")", x.pays(v, q), model.pays(v, q));
                same("exact(" + v + ", " + q + ")", x.exact(v, q), model.exact(v, q));
            }
            case 31 -> {
                int f = number(40);
                boolean over = random.nextBoolean();
                same("see(" + f + ", " + over + ")", x.see(f, over), model.see(f, over));
            }
            case 32 -> {
                int of = number(2);
                same("quick(" + of + ")", x.quick(of), model.quick(of));
                same("watch()", x.watch(), model.watch());
            }
            case 33 -> same("write(" + j + ", " + p + ")", x.write(j, p), model.write(j, p));
            case 34 -> same("judge()", x.judge(), model.judge());
            case 35 -> seldom();
            case 36 -> same("keep(" + what + ")", x.keep(what), model.keep(what));
            default -> same("goBack(" + what + ")", x.goBack(what), model.goBack(what));
        }
    }

    private void seldom() {
        int v = random.nextInt();
        switch (random.nextInt(6)) {
            case 0 -> same("tear()", x.tear(), model.tear());
            case 1 -> same("seed(" + v + ")", x.seed(v), model.seed(v));
            case 2 -> same("feed(" + v % 300 + ")", x.feed(v % 300), model.feed(v % 300));
            case 3 -> same("town()", x.town(), model.town());
            case 4 -> tell();
            default -> same("fault()", x.fault(), model.fault());
        }
    }
}
