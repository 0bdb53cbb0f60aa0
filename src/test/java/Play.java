import java.util.ArrayList;
import java.util.List;
import java.util.function.ToIntFunction;

/**
 * An object of LateBridges, with the calls that were made on it: so a like one can be made and asked, and this one
 * stays within the 512 calls of which the document speaks.
 */
final class Play {
    private static final int MOST_CALLS = 512;

    private final LateBridges object = new LateBridges();
    private final List<ToIntFunction<LateBridges>> calls = new ArrayList<>();

    /** A new object on which the same calls were made. */
    Play like() {
        Play other = new Play();
        for (ToIntFunction<LateBridges> call : calls) {
            other.made(call);
        }
        return other;
    }

    private int made(ToIntFunction<LateBridges> call) {
        if (calls.size() >= MOST_CALLS) {
            throw new IllegalStateException("a test makes more than 512 calls on one object");
        }
        calls.add(call);
        return call.applyAsInt(object);
    }

    /** All letters of a text. */
    Play tell(String text) {
        for (int i = 0; i < text.length(); i++) {
            feed(text.charAt(i));
        }
        return this;
    }

    int feed(int letter) {
        return made(x -> x.feed(letter));
    }

    int town() {
        return made(LateBridges::town);
    }

    int fault() {
        return made(LateBridges::fault);
    }

    int told(int what) {
        return made(x -> x.told(what));
    }

    int bridge(int b, int what) {
        return made(x -> x.bridge(b, what));
    }

    int keeper(int k, int what) {
        return made(x -> x.keeper(k, what));
    }

    int jumper(int j, int what) {
        return made(x -> x.jumper(j, what));
    }

    int flight(int j, int b) {
        return made(x -> x.flight(j, b));
    }

    int roll(int i, int what) {
        return made(x -> x.roll(i, what));
    }

    int leap(int j, int b) {
        return made(x -> x.leap(j, b));
    }

    int post(int k, int b) {
        return made(x -> x.post(k, b));
    }

    int rest(int k) {
        return made(x -> x.rest(k));
    }

    int train(int k) {
        return made(x -> x.train(k));
    }

    int talk(int j, int doubt) {
        return made(x -> x.talk(j, doubt));
    }

    int hour(int n) {
        return made(x -> x.hour(n));
    }

    int drift(int n) {
        return made(x -> x.drift(n));
    }

    int undo() {
        return made(LateBridges::undo);
    }

    int way(int j, int place, int what) {
        return made(x -> x.way(j, place, what));
    }

    int safest(int j, int place, int what) {
        return made(x -> x.safest(j, place, what));
    }

    int posts(int j, int b) {
        return made(x -> x.posts(j, b));
    }

    int tires(int j, int b) {
        return made(x -> x.tires(j, b));
    }

    int parted(int place, int other) {
        return made(x -> x.parted(place, other));
    }

    int pays(int v, int q) {
        return made(x -> x.pays(v, q));
    }

    int exact(int n, int q) {
        return made(x -> x.exact(n, q));
    }

    int see(int f, boolean over) {
        return made(x -> x.see(f, over));
    }

    int quick(int what) {
        return made(x -> x.quick(what));
    }

    int watch() {
        return made(LateBridges::watch);
    }

    int write(int j, int place) {
        return made(x -> x.write(j, place));
    }

    int tear() {
        return made(LateBridges::tear);
    }

    int judge() {
        return made(LateBridges::judge);
    }

    int seed(int v) {
        return made(x -> x.seed(v));
    }

    int keep(int i) {
        return made(x -> x.keep(i));
    }

    int goBack(int i) {
        return made(x -> x.goBack(i));
    }
}
