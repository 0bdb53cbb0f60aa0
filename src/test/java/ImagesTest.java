/** Promises 32 to 34: draws, images. */
public final class ImagesTest {
    private static final Check CHECK = new Check("ImagesTest");
    private static final String TOWN =
        "n5;b0 1 10 5;b1 2 6 0;b2 3 12 20;b0 3 4 0;b3 4 20 50;k0 5;k1 6;k2 9;k3 4;j0 0;j1 0;j2 2;j3 3;";

    public static void main(String[] args) {
        promise32Seed();
        promise33Keep();
        promise34GoBack();
        promise34TwoImages();
        CHECK.end();
    }

    private static void promise32Seed() {
        Play x = new Play();
        CHECK.due("seed(2147483647)", x.seed(2147483647), 0);
        CHECK.due("seed(0)", x.seed(0), 2147483647);
        CHECK.due("seed(7)", x.seed(7), 0);
        CHECK.refused("seed(-1)", x, y -> y.seed(-1), Check.OUTSIDE);
        CHECK.refused("seed(-2147483648)", x, y -> y.seed(-2147483648), Check.OUTSIDE);
        CHECK.due("seed(0)", x.seed(0), 7);
        Play drifting = Check.of(TOWN);
        drifting.seed(2147483647);
        drifting.drift(1);
        long seed = 2147483647;
        for (int i = 0; i < 3; i++) {
            seed = (seed * 1103515245L + 12345L) % 2147483648L;
        }
        CHECK.due("the seed behind three draws", drifting.seed(0), seed);
    }

    private static void promise33Keep() {
        Play x = Check.of(TOWN);
        x.leap(0, 0);
        x.hour(1);
        CHECK.refused("keep(-1)", x, y -> y.keep(-1), Check.UNKNOWN);
        CHECK.refused("keep(2)", x, y -> y.keep(2), Check.UNKNOWN);
        CHECK.due("keep(0)", x.keep(0), 1);
        CHECK.due("nothing can be undone", x.told(14), 0);
        CHECK.due("undo()", x.undo(), Check.NOT);
        x.leap(0, 0);
        CHECK.due("keep(0) again", x.keep(0), 1);
        String kept = Picture.of(x);
        x.drift(60);
        x.goBack(0);
        CHECK.holds("the later image counts", Picture.of(x).equals(kept));
        Play none = new Play();
        none.seed(4);
        CHECK.due("keep(1) without a town", none.keep(1), 1);
        none.seed(5);
        CHECK.due("goBack(1) without a town", none.goBack(1), 1);
        CHECK.due("its seed", none.seed(0), 4);
    }

    private static void promise34GoBack() {
        Play x = Check.of(TOWN);
        CHECK.refused("goBack(-1)", x, y -> y.goBack(-1), Check.UNKNOWN);
        CHECK.refused("goBack(2)", x, y -> y.goBack(2), Check.UNKNOWN);
        CHECK.refused("goBack(0): not kept", x, y -> y.goBack(0), Check.NOT);
        x.seed(12);
        x.drift(50);
        x.train(1);
        x.rest(2);
        x.post(2, 4);
        x.talk(3, 21);
        x.keep(0);
        String kept = Picture.of(x);
        CHECK.refused("goBack(1): not kept", x, y -> y.goBack(1), Check.NOT);
        x.drift(60);
        x.train(1);
        x.train(0);
        x.rest(2);
        x.talk(3, 2);
        x.leap(0, 0);
        CHECK.due("goBack(0)", x.goBack(0), 1);
        CHECK.holds("all is as it was kept, the seed too", Picture.of(x).equals(kept));
        CHECK.due("nothing can be undone", x.undo(), Check.NOT);
        x.drift(20);
        CHECK.due("goBack(0) once more", x.goBack(0), 1);
        CHECK.holds("the image does not change", Picture.of(x).equals(kept));
        x.see(3, true);
        x.write(0, 0);
        x.goBack(0);
        CHECK.due("what is seen stays", x.told(12), 1);
        CHECK.due("the book stays", x.told(13), 1);
    }

    private static void promise34TwoImages() {
        Play x = Check.of(TOWN);
        String first = Picture.ofSection2(x);
        x.keep(0);
        x.seed(3);
        x.drift(30);
        int seed = x.like().seed(0);
        x.keep(1);
        String second = Picture.ofSection2(x);
        x.drift(30);
        x.goBack(0);
        CHECK.holds("the first image", Picture.ofSection2(x).equals(first));
        CHECK.due("the first seed", x.like().seed(0), 0);
        x.goBack(1);
        CHECK.holds("the second image", Picture.ofSection2(x).equals(second));
        CHECK.due("the second seed", x.like().seed(0), seed);
        x.tell(TOWN);
        x.town();
        CHECK.due("a new town: goBack(0)", x.goBack(0), Check.NOT);
        CHECK.due("a new town: goBack(1)", x.goBack(1), Check.NOT);
    }
}
