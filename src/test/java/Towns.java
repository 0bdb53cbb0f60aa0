/** Towns in which something of all that an object holds is there: what a call must leave alone would be missed. */
final class Towns {
    static final String SMALL = "n4;b0 1 9 5;b1 2 9 5;k0 3;k2 4;k3 5;k0 1;j0 0;j1 1;";

    private Towns() {
    }

    /**
     * Both jumpers have been over and dried, keepers are tired, image 0 is kept, image 1 is not; something is seen, the
     * book has an entry that is wrong, three can be undone, THE SEED is 77; no letters are fed.
     */
    static Play lived() {
        Play x = Check.of(SMALL);
        x.leap(0, 0);
        x.leap(1, 1);
        x.keep(0);
        x.rest(1);
        x.leap(0, 1);
        x.leap(1, 1);
        x.seed(77);
        x.see(30, true);
        x.see(3, false);
        x.write(0, 1);
        x.write(0, 3);
        return x;
    }

    /** No town, but an image is kept, something is seen, a letter is fed, there was a fault. */
    static Play none(int image) {
        Play x = new Play();
        x.tell("n9;");
        x.town();
        x.see(30, true);
        x.see(3, false);
        x.seed(5);
        x.keep(image);
        x.seed(77);
        x.feed('n');
        return x;
    }
}
