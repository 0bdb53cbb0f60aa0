/** Counts the answers that are not due, prints them, and ends the test with exit code 1 if there was one. */
final class Check {
    static final int NONE = -1, UNKNOWN = -1000000001, OUTSIDE = -1000000002, NOT = -1000000003, FULL = -1000000004;

    private final String name;
    private String sentence = "";
    private int sentences;
    private int asked;
    private int askedAhead;
    private int wrong;

    Check(String name) {
        this.name = name;
    }

    /** What follows is the test of this sentence of the document. */
    void about(String ofTheDocument) {
        endSentence();
        sentence = " [" + ofTheDocument + "]";
        sentences++;
    }

    private void endSentence() {
        if (sentences > 0 && asked == askedAhead) {
            wrong++;
            System.out.println(name + sentence + ": nothing was asked");
        }
        askedAhead = asked;
    }

    void due(String call, long got, long want) {
        asked++;
        if (got != want) {
            wrong++;
            System.out.println(name + sentence + ": " + call + " answered " + got + ", due is " + want);
        }
    }

    void holds(String what, boolean so) {
        asked++;
        if (!so) {
            wrong++;
            System.out.println(name + sentence + ": " + what);
        }
    }

    int wrong() {
        return wrong;
    }

    void end() {
        endSentence();
        String of = sentences > 0 ? sentences + " sentences, " : "";
        System.out.println(name + ": " + of + asked + " answers, " + wrong + " wrong");
        if (wrong != 0 || asked == 0) {
            System.exit(1);
        }
    }

    /** A new object with the town of a text. */
    static Play of(String text) {
        Play x = new Play().tell(text);
        if (x.town() < 0) {
            throw new IllegalStateException("a test's text has a fault at " + x.fault() + ": " + text);
        }
        return x;
    }

    interface Call {
        int on(Play x);
    }

    /** A refusal: the answer is due, and nothing has changed. */
    void refused(String call, Play x, Call made, int want) {
        String before = Picture.of(x);
        due(call, made.on(x), want);
        holds(call + " changes something", before.equals(Picture.of(x)));
    }
}
