/** A town in the fens whose drawbridges are let down only when somebody has jumped: see README.md. */
public final class LateBridges {
    public static final int NONE = -1, UNKNOWN = -1000000001, OUTSIDE = -1000000002, NOT = -1000000003, FULL = -1000000004;

    private static final int BILLION = 1000000000;
    private static final int MOST_LETTERS = 240;
    private static final int LEAST_PLACES = 2, MOST_PLACES = 8;
    private static final int MOST_BRIDGES = 9, MOST_KEEPERS = 9, MOST_JUMPERS = 6;
    private static final int MOST_KIND = 3;
    private static final int LEAST_AIR = 2, MOST_AIR = 40, MOST_JAMS = 99;
    private static final int LEAST_NEED = 1, MOST_NEED = 40;
    private static final int MOST_TIRED = 99, MOST_DOUBT = 30, MOST_COUNTED = 999999;
    private static final int MOST_ROLL = 20, MOST_UNDONE = 16, MOST_SEEN = 6, MOST_ENTRIES = 15, IMAGES = 2;
    private static final int MOST_HOURS_AT_ONCE = 60, LAST_HOURS = 9000;
    private static final int MOST_FLIGHT = 40, MOST_PENCE = 99, MOST_PAID = 30, MOST_EVENINGS = 60, HUNDRED = 100;

    private final TownText text = new TownText();
    private final Fen fen = new Fen();
    private final Town town = fen.town;
    private final State now = fen.now;
    private final Ways ways = new Ways(fen.town);
    private final Postings postings = new Postings(fen);
    private final Seen seen = new Seen();
    private final Book book = new Book();
    private final Past past = new Past();
    private final Image[] images = new Image[IMAGES];

    public LateBridges() {
        for (int i = 0; i < IMAGES; i++) {
            images[i] = new Image();
        }
    }

    // ---- the town

    public int feed(int letter) {
        if (letter < 0 || letter > 255) {
            return OUTSIDE;
        }
        if (text.length >= MOST_LETTERS) {
            return FULL;
        }
        text.add(letter);
        return text.length;
    }

    public int town() {
        text.readTown();
        text.length = 0;
        if (text.faultNumber != 0) {
            return -10 - text.faultNumber;
        }
        town.copyFrom(text.draft);
        now.begin(town);
        seen.forget();
        book.size = 0;
        past.forget();
        for (int i = 0; i < IMAGES; i++) {
            images[i].kept = false;
        }
        return town.bridges;
    }

    public int fault() {
        return text.faultAt;
    }

    public int told(int what) {
        switch (what) {
            case 0: return town.places;
            case 1: return town.bridges;
            case 2: return town.keepers;
            case 3: return town.jumpers;
            case 4: return text.length;
            case 5: return now.hours;
            case 6: return fen.keptBridges();
            case 7: return ways.bottles();
            case 8: return ways.farthest();
            case 9: return fen.trusted();
            case 10: return fen.driest();
            case 11: return now.rollSize;
            case 12: return seen.count;
            case 13: return book.size;
            case 14: return past.size;
            default: return OUTSIDE;
        }
    }

    public int bridge(int b, int what) {
        if (!town.hasBridge(b)) {
            return UNKNOWN;
        }
        switch (what) {
            case 0: return town.endA[b];
            case 1: return town.endB[b];
            case 2: return town.air[b];
            case 3: return town.jams[b];
            case 4: return fen.keeperAt(b);
            case 5: return fen.timeAt(b);
            default: return OUTSIDE;
        }
    }

    public int keeper(int k, int what) {
        if (!town.hasKeeper(k)) {
            return UNKNOWN;
        }
        switch (what) {
            case 0: return town.keeperKind[k];
            case 1: return now.need[k];
            case 2: return now.posted[k];
            case 3: return now.tired[k];
            case 4: return fen.timeOf(k);
            default: return OUTSIDE;
        }
    }

    public int jumper(int j, int what) {
        if (!town.hasJumper(j)) {
            return UNKNOWN;
        }
        switch (what) {
            case 0: return town.jumperKind[j];
            case 1: return now.place[j];
            case 2: return now.doubt[j];
            case 3: return now.over[j];
            case 4: return now.dried[j];
            case 5: return fen.dares(j);
            default: return OUTSIDE;
        }
    }

    public int flight(int j, int b) {
        if (!town.hasJumper(j) || !town.hasBridge(b)) {
            return UNKNOWN;
        }
        return fen.flightOver(j, b);
    }

    public int roll(int i, int what) {
        if (what < 0 || what > 3) {
            return OUTSIDE;
        }
        return now.rollEntry(i, what);
    }

    // ---- what is done

    public int leap(int j, int b) {
        if (!town.hasJumper(j) || !town.hasBridge(b)) {
            return UNKNOWN;
        }
        if (!town.touches(b, now.place[j])) {
            return NOT;
        }
        past.remember(now);
        return fen.jump(j, b, false) ? 1 : 0;
    }

    public int post(int k, int b) {
        if (!town.hasKeeper(k) || !town.hasBridge(b)) {
            return UNKNOWN;
        }
        if (fen.keeperAt(b) != NONE) {
            return NOT;
        }
        past.remember(now);
        int before = now.posted[k];
        now.posted[k] = b;
        return before;
    }

    public int rest(int k) {
        if (!town.hasKeeper(k)) {
            return UNKNOWN;
        }
        int before = now.posted[k];
        if (before == NONE) {
            return NOT;
        }
        past.remember(now);
        now.posted[k] = NONE;
        return before;
    }

    public int train(int k) {
        if (!town.hasKeeper(k)) {
            return UNKNOWN;
        }
        if (now.need[k] <= LEAST_NEED) {
            return NOT;
        }
        past.remember(now);
        now.need[k]--;
        return now.need[k];
    }

    public int talk(int j, int doubt) {
        if (!town.hasJumper(j)) {
            return UNKNOWN;
        }
        if (doubt < 0 || doubt > MOST_DOUBT) {
            return OUTSIDE;
        }
        past.remember(now);
        int before = now.doubt[j];
        now.doubt[j] = doubt;
        return before;
    }

    public int hour(int n) {
        return passHours(n, false);
    }

    public int drift(int n) {
        return passHours(n, true);
    }

    private int passHours(int n, boolean byDraws) {
        if (n < 1 || n > MOST_HOURS_AT_ONCE) {
            return OUTSIDE;
        }
        if (town.places == 0) {
            return NOT;
        }
        if (now.hours > LAST_HOURS) {
            return FULL;
        }
        past.remember(now);
        for (int i = 0; i < n; i++) {
            if (byDraws) {
                fen.drawnJump();
            }
            fen.oneHour();
        }
        return now.hours;
    }

    public int undo() {
        if (past.size == 0) {
            return NOT;
        }
        past.bringBack(now);
        return past.size;
    }

    // ---- tried

    public int way(int j, int x, int what) {
        if (!town.hasJumper(j) || !town.hasPlace(x)) {
            return UNKNOWN;
        }
        if (what < 0 || what > 1) {
            return OUTSIDE;
        }
        int dared = fen.dares(j);
        return what == 0 ? ways.fewest(now.place[j], x, dared) : ways.firstOfFewest(now.place[j], x, dared);
    }

    public int safest(int j, int x, int what) {
        if (!town.hasJumper(j) || !town.hasPlace(x)) {
            return UNKNOWN;
        }
        if (what < 0 || what > 1) {
            return OUTSIDE;
        }
        ways.findSafest(now.place[j], x, fen.dares(j));
        return what == 0 ? ways.bestOdds : ways.bestFirst;
    }

    public int posts(int j, int b) {
        if (!town.hasJumper(j) || (b != NONE && !town.hasBridge(b))) {
            return UNKNOWN;
        }
        postings.choose(j);
        return b == NONE ? postings.count : postings.chosen[b];
    }

    public int tires(int j, int b) {
        if (!town.hasJumper(j) || !town.hasBridge(b)) {
            return UNKNOWN;
        }
        int k = fen.keeperAt(b);
        if (k == NONE) {
            return NOT;
        }
        int flight = fen.flightOver(j, b);
        for (int tired = now.tired[k]; tired <= MOST_TIRED; tired++) {
            if (fen.timeIfTired(k, tired) > flight) {
                return tired - now.tired[k];
            }
        }
        return NONE;
    }

    public int parted(int x, int y) {
        if (!town.hasPlace(x) || !town.hasPlace(y) || x == y) {
            return UNKNOWN;
        }
        return ways.fewestParting(x, y);
    }

    public int pays(int v, int q) {
        if (v < 1 || v > MOST_PENCE || q < 0 || q > HUNDRED) {
            return OUTSIDE;
        }
        int best = 0;
        long bestPay = 0;
        int odds = BILLION;
        for (int n = 1; n <= MOST_PAID; n++) {
            odds = partOf(odds, q);
            long pay = (long) n * v * odds;
            if (pay > bestPay) {
                bestPay = pay;
                best = n;
            }
        }
        return best;
    }

    public int exact(int n, int q) {
        if (n < 0 || n > MOST_EVENINGS || q < 0 || q > HUNDRED) {
            return OUTSIDE;
        }
        int odds = BILLION;
        for (int i = 0; i < n; i++) {
            odds = partOf(odds, q);
        }
        return odds;
    }

    // ---- what is seen

    public int see(int f, boolean over) {
        if (f < 0 || f > MOST_FLIGHT) {
            return OUTSIDE;
        }
        if (seen.count >= MOST_SEEN) {
            return FULL;
        }
        seen.add(f, over);
        return seen.count;
    }

    public int quick(int what) {
        switch (what) {
            case 0: return seen.fitting();
            case 1: return seen.fitting() == 0 ? NONE : seen.least;
            case 2: return seen.fitting() == 0 ? NONE : seen.greatest;
            default: return OUTSIDE;
        }
    }

    public int watch() {
        return seen.bestFlight();
    }

    public int write(int j, int x) {
        if (!town.hasJumper(j) || !town.hasPlace(x)) {
            return UNKNOWN;
        }
        if (book.size >= MOST_ENTRIES) {
            return FULL;
        }
        book.add(j, x);
        return book.size;
    }

    public int tear() {
        int had = seen.count + book.size;
        seen.forget();
        book.size = 0;
        return had;
    }

    public int judge() {
        return book.firstWrong(now);
    }

    // ---- draws, images

    public int seed(int v) {
        if (v < 0) {
            return OUTSIDE;
        }
        int before = fen.drawSeed;
        fen.drawSeed = v;
        return before;
    }

    public int keep(int i) {
        if (i < 0 || i >= IMAGES) {
            return UNKNOWN;
        }
        Image image = images[i];
        image.kept = true;
        image.drawSeed = fen.drawSeed;
        image.state.copyFrom(now);
        past.forget();
        return 1;
    }

    public int goBack(int i) {
        if (i < 0 || i >= IMAGES) {
            return UNKNOWN;
        }
        Image image = images[i];
        if (!image.kept) {
            return NOT;
        }
        fen.drawSeed = image.drawSeed;
        now.copyFrom(image.state);
        past.forget();
        return 1;
    }

    /** Through a long, as a BILLION times a hundred is more than an int holds. */
    private static int partOf(int odds, int hundredths) {
        return (int) ((long) odds * hundredths / HUNDRED);
    }

    /** What the text tells: nothing of it changes before the next town. */
    private static final class Town {
        int places, bridges, keepers, jumpers;
        final int[] endA = new int[MOST_BRIDGES];
        final int[] endB = new int[MOST_BRIDGES];
        final int[] air = new int[MOST_BRIDGES];
        final int[] jams = new int[MOST_BRIDGES];
        final int[] keeperKind = new int[MOST_KEEPERS];
        final int[] toldNeed = new int[MOST_KEEPERS];
        final int[] jumperKind = new int[MOST_JUMPERS];
        final int[] toldPlace = new int[MOST_JUMPERS];

        void clear() {
            places = 0;
            bridges = 0;
            keepers = 0;
            jumpers = 0;
        }

        void copyFrom(Town other) {
            places = other.places;
            bridges = other.bridges;
            keepers = other.keepers;
            jumpers = other.jumpers;
            System.arraycopy(other.endA, 0, endA, 0, MOST_BRIDGES);
            System.arraycopy(other.endB, 0, endB, 0, MOST_BRIDGES);
            System.arraycopy(other.air, 0, air, 0, MOST_BRIDGES);
            System.arraycopy(other.jams, 0, jams, 0, MOST_BRIDGES);
            System.arraycopy(other.keeperKind, 0, keeperKind, 0, MOST_KEEPERS);
            System.arraycopy(other.toldNeed, 0, toldNeed, 0, MOST_KEEPERS);
            System.arraycopy(other.jumperKind, 0, jumperKind, 0, MOST_JUMPERS);
            System.arraycopy(other.toldPlace, 0, toldPlace, 0, MOST_JUMPERS);
        }

        boolean hasPlace(int x) {
            return x >= 0 && x < places;
        }

        boolean hasBridge(int b) {
            return b >= 0 && b < bridges;
        }

        boolean hasKeeper(int k) {
            return k >= 0 && k < keepers;
        }

        boolean hasJumper(int j) {
            return j >= 0 && j < jumpers;
        }

        boolean touches(int b, int x) {
            return endA[b] == x || endB[b] == x;
        }

        int beyond(int b, int x) {
            return endA[b] == x ? endB[b] : endA[b];
        }

        boolean joined(int x, int y) {
            for (int b = 0; b < bridges; b++) {
                if (touches(b, x) && beyond(b, x) == y) {
                    return true;
                }
            }
            return false;
        }

        int allBridges() {
            return (1 << bridges) - 1;
        }

        void addBridge(int a, int b, int airTime, int jamsOfHundred) {
            endA[bridges] = a;
            endB[bridges] = b;
            air[bridges] = airTime;
            jams[bridges] = jamsOfHundred;
            bridges++;
        }

        void addKeeper(int kind, int need) {
            keeperKind[keepers] = kind;
            toldNeed[keepers] = need;
            keepers++;
        }

        void addJumper(int kind, int x) {
            jumperKind[jumpers] = kind;
            toldPlace[jumpers] = x;
            jumpers++;
        }
    }

    /** The letters fed, and what they tell, read from left to right up to the first fault. */
    private static final class TownText {
        private static final int MISPLACED = 1, OUT_OF_BOUNDS = 2, ONE_TOO_MANY = 3, JOINED_ALREADY = 4;
        private static final int MOST_FIGURES = 3;

        final Town draft = new Town();
        int length;
        int faultNumber;
        int faultAt = NONE;
        private final int[] letters = new int[MOST_LETTERS];
        private int at;
        private int numberAt;

        void add(int letter) {
            letters[length] = letter;
            length++;
        }

        void readTown() {
            draft.clear();
            faultNumber = 0;
            faultAt = NONE;
            at = 0;
            skipBlanks();
            for (int clause = 0; clause < MOST_LETTERS && at < length && faultNumber == 0; clause++) {
                readClause();
                skipBlanks();
            }
        }

        private void readClause() {
            int word = letters[at];
            if (!isWordHere(word)) {
                fail(MISPLACED, at);
                return;
            }
            if (isOneTooMany(word)) {
                fail(ONE_TOO_MANY, at);
                return;
            }
            at++;
            switch (word) {
                case 'n': readPlaces(); break;
                case 'b': readBridge(); break;
                case 'k': readKeeper(); break;
                default: readJumper(); break;
            }
        }

        private boolean isWordHere(int letter) {
            if (draft.places == 0) {
                return letter == 'n';
            }
            return letter == 'n' || letter == 'b' || letter == 'k' || letter == 'j';
        }

        private boolean isOneTooMany(int word) {
            switch (word) {
                case 'n': return draft.places > 0;
                case 'b': return draft.bridges >= MOST_BRIDGES;
                case 'k': return draft.keepers >= MOST_KEEPERS;
                default: return draft.jumpers >= MOST_JUMPERS;
            }
        }

        private void readPlaces() {
            int places = readNumber(LEAST_PLACES, MOST_PLACES);
            if (endsClause()) {
                draft.places = places;
            }
        }

        private void readBridge() {
            int a = readPlace();
            int b = readPlace();
            if (faultNumber == 0 && (a == b || draft.joined(a, b))) {
                fail(JOINED_ALREADY, numberAt);
            }
            int air = readNumber(LEAST_AIR, MOST_AIR);
            int jams = readNumber(0, MOST_JAMS);
            if (endsClause()) {
                draft.addBridge(a, b, air, jams);
            }
        }

        private void readKeeper() {
            int kind = readNumber(0, MOST_KIND);
            int need = readNumber(LEAST_NEED, MOST_NEED);
            if (endsClause()) {
                draft.addKeeper(kind, need);
            }
        }

        private void readJumper() {
            int kind = readNumber(0, MOST_KIND);
            int x = readPlace();
            if (endsClause()) {
                draft.addJumper(kind, x);
            }
        }

        private int readPlace() {
            return readNumber(0, draft.places - 1);
        }

        /** Behind a fault it reads no further: only the first one is told. */
        private int readNumber(int least, int most) {
            if (faultNumber != 0) {
                return NONE;
            }
            skipBlanks();
            numberAt = at;
            int value = 0;
            for (; at < length && isFigure(letters[at]); at++) {
                if (at - numberAt < MOST_FIGURES) {
                    value = value * 10 + letters[at] - '0';
                }
            }
            int figures = at - numberAt;
            if (figures == 0) {
                fail(MISPLACED, at);
            } else if (figures > MOST_FIGURES || value < least || value > most) {
                fail(OUT_OF_BOUNDS, numberAt);
            }
            return value;
        }

        private boolean endsClause() {
            if (faultNumber != 0) {
                return false;
            }
            skipBlanks();
            if (at >= length || letters[at] != ';') {
                fail(MISPLACED, at);
                return false;
            }
            at++;
            return true;
        }

        private void skipBlanks() {
            while (at < length && letters[at] == ' ') {
                at++;
            }
        }

        private static boolean isFigure(int letter) {
            return letter >= '0' && letter <= '9';
        }

        private void fail(int number, int letterAt) {
            faultNumber = number;
            faultAt = letterAt;
        }
    }

    /** All that changes by what is done: what undo() and the images bring back. */
    private static final class State {
        int hours;
        int rollSize;
        final int[] need = new int[MOST_KEEPERS];
        final int[] posted = new int[MOST_KEEPERS];
        final int[] tired = new int[MOST_KEEPERS];
        final int[] place = new int[MOST_JUMPERS];
        final int[] doubt = new int[MOST_JUMPERS];
        final int[] over = new int[MOST_JUMPERS];
        final int[] dried = new int[MOST_JUMPERS];
        // The latest first. One number an entry, as a whole state is copied ahead of all that is done.
        private final int[] rollEntries = new int[MOST_ROLL];

        void begin(Town town) {
            hours = 0;
            rollSize = 0;
            for (int k = 0; k < town.keepers; k++) {
                need[k] = town.toldNeed[k];
                posted[k] = k < town.bridges ? k : NONE;
                tired[k] = 0;
            }
            for (int j = 0; j < town.jumpers; j++) {
                place[j] = town.toldPlace[j];
                doubt[j] = 0;
                over[j] = 0;
                dried[j] = 0;
            }
        }

        void copyFrom(State other) {
            hours = other.hours;
            rollSize = other.rollSize;
            System.arraycopy(other.need, 0, need, 0, MOST_KEEPERS);
            System.arraycopy(other.posted, 0, posted, 0, MOST_KEEPERS);
            System.arraycopy(other.tired, 0, tired, 0, MOST_KEEPERS);
            System.arraycopy(other.place, 0, place, 0, MOST_JUMPERS);
            System.arraycopy(other.doubt, 0, doubt, 0, MOST_JUMPERS);
            System.arraycopy(other.over, 0, over, 0, MOST_JUMPERS);
            System.arraycopy(other.dried, 0, dried, 0, MOST_JUMPERS);
            System.arraycopy(other.rollEntries, 0, rollEntries, 0, MOST_ROLL);
        }

        void enter(int j, int b, boolean cameOver) {
            for (int i = MOST_ROLL - 1; i > 0; i--) {
                rollEntries[i] = rollEntries[i - 1];
            }
            rollEntries[0] = hours << 8 | j << 5 | b << 1 | (cameOver ? 1 : 0);
            rollSize = Math.min(rollSize + 1, MOST_ROLL);
        }

        int rollEntry(int i, int what) {
            if (i < 0 || i >= rollSize) {
                return NONE;
            }
            int entry = rollEntries[i];
            switch (what) {
                case 0: return entry >> 8;
                case 1: return entry >> 5 & 7;
                case 2: return entry >> 1 & 15;
                default: return entry & 1;
            }
        }
    }

    /** The town as it is now, and what happens in it. */
    private static final class Fen {
        private static final int YOUNG = 1, OLD = 2, PROUD = 3;
        private static final int STRANGER = 1, GIRL = 2, CART = 3;

        final Town town = new Town();
        final State now = new State();
        int drawSeed;

        int timeOf(int k) {
            return timeIfTired(k, now.tired[k]);
        }

        int timeIfTired(int k, int tired) {
            int need = now.need[k];
            switch (town.keeperKind[k]) {
                case YOUNG: return need + now.hours % 2 * 2;
                case OLD: return need + tired;
                case PROUD: return need + tired / 3;
                default: return need;
            }
        }

        int flightOver(int j, int b) {
            int air = town.air[b];
            int doubt = now.doubt[j];
            switch (town.jumperKind[j]) {
                case STRANGER: return Math.max(0, air - doubt);
                case GIRL: return Math.max(0, air - doubt / 2 - now.hours % 2);
                case CART: return air / 2;
                default: return air;
            }
        }

        int keeperAt(int b) {
            for (int k = 0; k < town.keepers; k++) {
                if (now.posted[k] == b) {
                    return k;
                }
            }
            return NONE;
        }

        int timeAt(int b) {
            int k = keeperAt(b);
            return k == NONE ? NONE : timeOf(k);
        }

        int keptBridges() {
            int kept = 0;
            for (int k = 0; k < town.keepers; k++) {
                if (now.posted[k] != NONE) {
                    kept++;
                }
            }
            return kept;
        }

        private boolean comesOver(int j, int b) {
            int k = keeperAt(b);
            return k != NONE && timeOf(k) <= flightOver(j, b);
        }

        int dares(int j) {
            int dared = 0;
            for (int b = 0; b < town.bridges; b++) {
                if (comesOver(j, b)) {
                    dared |= 1 << b;
                }
            }
            return dared;
        }

        int trusted() {
            int set = 0;
            for (int j = 0; j < town.jumpers; j++) {
                if (now.over[j] > now.dried[j]) {
                    set |= 1 << j;
                }
            }
            return set;
        }

        int driest() {
            int best = NONE;
            for (int j = 0; j < town.jumpers; j++) {
                if (best == NONE || now.dried[j] < now.dried[best]) {
                    best = j;
                }
            }
            return best;
        }

        boolean jump(int j, int b, boolean jammed) {
            boolean cameOver = !jammed && comesOver(j, b);
            if (cameOver) {
                now.place[j] = town.beyond(b, now.place[j]);
                now.doubt[j] = Math.max(0, now.doubt[j] - 1);
                now.over[j] = Math.min(MOST_COUNTED, now.over[j] + 1);
            } else {
                now.doubt[j] = Math.min(MOST_DOUBT, now.doubt[j] + 2);
                now.dried[j] = Math.min(MOST_COUNTED, now.dried[j] + 1);
            }
            int k = keeperAt(b);
            if (k != NONE) {
                now.tired[k] = Math.min(MOST_TIRED, now.tired[k] + 1);
            }
            now.enter(j, b, cameOver);
            return cameOver;
        }

        void oneHour() {
            for (int k = 0; k < town.keepers; k++) {
                int rested = now.posted[k] == NONE ? 3 : 1;
                now.tired[k] = Math.max(0, now.tired[k] - rested);
            }
            for (int j = 0; j < town.jumpers; j++) {
                if (now.doubt[j] % 2 == 1) {
                    now.doubt[j]--;
                }
            }
            now.hours++;
        }

        void drawnJump() {
            if (town.jumpers == 0 || town.bridges == 0) {
                return;
            }
            int j = draw(town.jumpers);
            int b = draw(town.bridges);
            int luck = draw(HUNDRED);
            if (town.touches(b, now.place[j])) {
                jump(j, b, luck < town.jams[b]);
            }
        }

        private int draw(int n) {
            drawSeed = (int) ((drawSeed * 1103515245L + 12345L) & 0x7fffffffL);
            return n > 0 ? drawSeed / 65536 % n : 0;
        }
    }

    /** Ways from place to place by the bridges of a set. */
    private static final class Ways {
        int bestOdds;
        int bestFirst;
        private final Town town;
        private final int[] steps = new int[MOST_PLACES];
        private int goal;
        private int open;

        Ways(Town town) {
            this.town = town;
        }

        int fewest(int start, int end, int set) {
            measure(end, set);
            return steps[start];
        }

        int firstOfFewest(int start, int end, int set) {
            int fewest = fewest(start, end, set);
            for (int b = 0; b < town.bridges && fewest > 0; b++) {
                boolean leaves = isIn(b, set) && town.touches(b, start);
                if (leaves && steps[town.beyond(b, start)] == fewest - 1) {
                    return b;
                }
            }
            return NONE;
        }

        /** Fills steps, from each place to the end: each round goes one bridge further out. */
        private void measure(int end, int set) {
            for (int x = 0; x < town.places; x++) {
                steps[x] = NONE;
            }
            steps[end] = 0;
            for (int round = 0; round < town.places; round++) {
                for (int b = 0; b < town.bridges; b++) {
                    if (isIn(b, set)) {
                        spread(town.endA[b], town.endB[b], round);
                        spread(town.endB[b], town.endA[b], round);
                    }
                }
            }
        }

        private void spread(int from, int to, int round) {
            if (steps[from] == round && steps[to] == NONE) {
                steps[to] = round + 1;
            }
        }

        void findSafest(int start, int end, int set) {
            goal = end;
            open = set;
            bestOdds = NONE;
            bestFirst = NONE;
            walk(this, start, 1 << start, BILLION, NONE, 0);
        }

        /**
         * Tries the lesser bridge first, so that of like ways the first found is the one to keep. Every way is
         * walked: since odds are cut bridge by bridge, unlike ways to a place may be alike in the end.
         */
        private static void walk(Ways ways, int x, int visited, int odds, int first, int depth) {
            if (x == ways.goal) {
                if (odds > ways.bestOdds) {
                    ways.bestOdds = odds;
                    ways.bestFirst = first;
                }
                return;
            }
            Town town = ways.town;
            for (int b = 0; b < town.bridges && depth < MOST_PLACES; b++) {
                if (!isIn(b, ways.open) || !town.touches(b, x)) {
                    continue;
                }
                int next = town.beyond(b, x);
                if (!isIn(next, visited)) {
                    int oddsThere = partOf(odds, HUNDRED - town.jams[b]);
                    walk(ways, next, visited | 1 << next, oddsThere, first == NONE ? b : first, depth + 1);
                }
            }
        }

        int bottles() {
            int set = 0;
            for (int b = 0; b < town.bridges; b++) {
                int others = town.allBridges() & ~(1 << b);
                if (fewest(town.endA[b], town.endB[b], others) == NONE) {
                    set |= 1 << b;
                }
            }
            return set;
        }

        int farthest() {
            int most = 0;
            for (int end = 0; end < town.places; end++) {
                measure(end, town.allBridges());
                for (int x = 0; x < town.places; x++) {
                    most = Math.max(most, steps[x]);
                }
            }
            return most;
        }

        int fewestParting(int x, int y) {
            int all = town.allBridges();
            for (int size = 0; size < town.bridges; size++) {
                for (int set = 0; set < all; set++) {
                    if (Integer.bitCount(set) == size && fewest(x, y, all & ~set) == NONE) {
                        return set;
                    }
                }
            }
            return all;
        }

        private static boolean isIn(int number, int set) {
            return (set >> number & 1) == 1;
        }
    }

    /** Which keepers, wherever they are now, would let most bridges be leapt. */
    private static final class Postings {
        int count;
        final int[] chosen = new int[MOST_BRIDGES];
        private final Fen fen;
        private final int[] flights = new int[MOST_BRIDGES];
        private final int[] times = new int[MOST_KEEPERS];
        private final int[] byFlight = new int[MOST_BRIDGES];

        Postings(Fen fen) {
            this.fen = fen;
        }

        void choose(int j) {
            prepare(j);
            int free = (1 << fen.town.keepers) - 1;
            count = mostFrom(0, free);
            int wanted = count;
            for (int b = 0; b < fen.town.bridges; b++) {
                chosen[b] = leastFor(b, free, wanted);
                if (chosen[b] != NONE) {
                    free &= ~(1 << chosen[b]);
                    wanted--;
                }
            }
        }

        private void prepare(int j) {
            for (int k = 0; k < fen.town.keepers; k++) {
                times[k] = fen.timeOf(k);
            }
            for (int b = 0; b < fen.town.bridges; b++) {
                flights[b] = fen.flightOver(j, b);
                int i = b;
                for (; i > 0 && flights[byFlight[i - 1]] > flights[b]; i--) {
                    byFlight[i] = byFlight[i - 1];
                }
                byFlight[i] = b;
            }
        }

        private int leastFor(int b, int free, int wanted) {
            for (int k = 0; k < fen.town.keepers; k++) {
                boolean can = (free >> k & 1) == 1 && times[k] <= flights[b];
                if (can && mostFrom(b + 1, free & ~(1 << k)) == wanted - 1) {
                    return k;
                }
            }
            return NONE;
        }

        /**
         * The most of the bridges from a first one on. Whoever is quick enough for a short flight is so for a longer
         * one too: so the shortest are served first, by anyone, and a count of keepers is enough.
         */
        private int mostFrom(int firstBridge, int free) {
            int served = 0;
            for (int i = 0; i < fen.town.bridges; i++) {
                int b = byFlight[i];
                if (b >= firstBridge && quickEnough(flights[b], free) > served) {
                    served++;
                }
            }
            return served;
        }

        private int quickEnough(int flight, int free) {
            int found = 0;
            for (int k = 0; k < fen.town.keepers; k++) {
                if ((free >> k & 1) == 1 && times[k] <= flight) {
                    found++;
                }
            }
            return found;
        }
    }

    /** Leaps seen: each leaves of the needs that fit those up to its flight, or those above, so they are a stretch. */
    private static final class Seen {
        int count;
        int least = LEAST_NEED;
        int greatest = MOST_NEED;

        void forget() {
            count = 0;
            least = LEAST_NEED;
            greatest = MOST_NEED;
        }

        void add(int flight, boolean over) {
            count++;
            if (over) {
                greatest = Math.min(greatest, flight);
            } else {
                least = Math.max(least, flight + 1);
            }
        }

        int fitting() {
            return Math.max(0, greatest - least + 1);
        }

        int bestFlight() {
            int fitting = fitting();
            return fitting < 2 ? NONE : least + fitting / 2 - 1;
        }
    }

    /** Which jumper is told to be in which place. */
    private static final class Book {
        int size;
        private final int[] jumpers = new int[MOST_ENTRIES];
        private final int[] places = new int[MOST_ENTRIES];

        void add(int j, int x) {
            jumpers[size] = j;
            places[size] = x;
            size++;
        }

        int firstWrong(State now) {
            for (int i = 0; i < size; i++) {
                if (now.place[jumpers[i]] != places[i]) {
                    return i;
                }
            }
            return NONE;
        }
    }

    /** States to be brought back, in a ring: the oldest is written over. */
    private static final class Past {
        int size;
        private final State[] states = new State[MOST_UNDONE];
        private int next;

        Past() {
            for (int i = 0; i < MOST_UNDONE; i++) {
                states[i] = new State();
            }
        }

        void forget() {
            size = 0;
        }

        void remember(State now) {
            states[next].copyFrom(now);
            next = (next + 1) % MOST_UNDONE;
            size = Math.min(size + 1, MOST_UNDONE);
        }

        void bringBack(State now) {
            next = (next + MOST_UNDONE - 1) % MOST_UNDONE;
            now.copyFrom(states[next]);
            size--;
        }
    }

    private static final class Image {
        boolean kept;
        int drawSeed;
        final State state = new State();
    }
}
