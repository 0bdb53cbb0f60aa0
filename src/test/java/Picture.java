import java.util.function.Consumer;

/**
 * All that can be known of an object, in one text: what it answers now, behind each undo(), behind goBack() to each
 * image, and what its letters tell. Each part is asked of a like object, so that nothing changes in the one shown.
 */
final class Picture {
    private final Play shown;
    private final StringBuilder text = new StringBuilder();

    private Picture(Play shown) {
        this.shown = shown;
    }

    /** With the letters fed and the fault of the latest town(). */
    static String of(Play x) {
        Picture p = new Picture(x);
        p.text.append("fault ").append(x.like().fault()).append(", letters ").append(x.like().told(4));
        p.look(", which tell ", y -> p.text.append(y.town()).append(' ').append(y.fault()));
        p.state(Play::town);
        p.look(" bridges", y -> p.bridges(y, y.town()));
        return p.text.append(withoutText(x)).toString();
    }

    /** What a town() with a fault leaves as it was. */
    static String withoutText(Play x) {
        Picture p = new Picture(x);
        p.look("\nseen, book, seed:", p::seenBookSeed);
        p.state(y -> { });
        int undone = x.like().told(14);
        p.text.append("\nto undo ").append(undone);
        for (int depth = 1; depth <= undone; depth++) {
            int times = depth;
            p.state(y -> undo(y, times));
        }
        for (int i = 0; i < 2; i++) {
            int image = i;
            p.text.append("\nimage ").append(x.like().goBack(image));
            p.state(y -> y.goBack(image));
            p.look(" seed", y -> p.text.append(y.goBack(image)).append(' ').append(y.seed(0)));
        }
        return p.text.toString();
    }

    /** What undo(), keep() and goBack() are about: all of section 2. */
    static String ofSection2(Play x) {
        Picture p = new Picture(x);
        p.state(y -> { });
        return p.text.toString();
    }

    private static void undo(Play y, int times) {
        for (int i = 0; i < times; i++) {
            y.undo();
        }
    }

    private void look(String title, Consumer<Play> asked) {
        text.append(title);
        asked.accept(shown.like());
    }

    private void state(Consumer<Play> first) {
        look("\nstate", y -> {
            first.accept(y);
            keepersAndJumpers(y);
        });
        look(" roll", y -> {
            first.accept(y);
            roll(y);
        });
    }

    private void seenBookSeed(Play y) {
        for (int what = 0; what <= 14; what++) {
            add(what == 4 ? 0 : y.told(what));
        }
        for (int what = 0; what < 3; what++) {
            add(y.quick(what));
        }
        add(y.watch());
        add(y.judge());
        bridges(y, y.told(1));
        add(y.seed(0));
    }

    private void bridges(Play y, int howMany) {
        add(howMany);
        for (int b = 0; b < howMany; b++) {
            for (int what = 0; what < 6; what++) {
                add(y.bridge(b, what));
            }
        }
    }

    private void keepersAndJumpers(Play y) {
        add(y.told(5));
        add(y.told(6));
        for (int k = 0; k < 9; k++) {
            for (int what = 0; what < 5; what++) {
                add(y.keeper(k, what));
            }
        }
        for (int j = 0; j < 6; j++) {
            for (int what = 0; what < 6; what++) {
                add(y.jumper(j, what));
            }
        }
    }

    private void roll(Play y) {
        add(y.told(11));
        for (int i = 0; i < 20; i++) {
            for (int what = 0; what < 4; what++) {
                add(y.roll(i, what));
            }
        }
    }

    private void add(int answer) {
        text.append(' ').append(answer);
    }
}
