/**
 * A river in reaches: levels, banks, bridges, gifts and rain, thought ahead day by day, and in deed.
 * The document (shared/DOC.md) tells every call; its words in capitals are used here as they stand there:
 * "ahead" is earlier, "behind" is later.
 */
public final class RiverHand {
    public static final int BAD = -1, NOT = -2, FULL = -3, STATE = -5, VOID = -2000000000;

    private static final int NOTHING_THERE = -11, OTHER_KIND = -12, NO_SUCH_PLACE = -13, SIZE_BELOW_0 = -14;
    private static final long NO_LONG = -9223372036854775808L;
    private static final int MOST_DAYS = 60, MOST_NEAR_DAYS = 20, WEEK = 7, SHELVES = 6;
    private static final int GONE = 8, CARRIES_A_RING = 5;
    private static final int NOT_READ = 100, MOST_READ = 41;
    private static final int MOST_ANSWERS = 20, SURE_ENOUGH = 4;
    private static final int THROWS = 0, TAKES = 1, NOTHING = 2, MOST_TURNS = 5, HANDFUL = 9;
    private static final int LED_DAYS = 0, LED_RISES = 1, LED_FALLS = 2, LED_FLOODS = 3, LED_GIFTS = 4, LED_NUMBERS = 5;

    private final River now;
    private final River thought;
    private final River imaged;
    private final int[] ledNow;
    private final int[] ledImaged;
    private boolean hasImage;
    private final long[] week;
    private final LawReader tape;
    private Law inForce;
    private final Changes changes;
    private final Steps steps;
    private final Shelf[] shelves;

    public RiverHand() {
        now = new River();
        thought = new River();
        imaged = new River();
        ledNow = new int[LED_NUMBERS];
        ledImaged = new int[LED_NUMBERS];
        week = new long[WEEK];
        tape = new LawReader();
        inForce = new Law();
        changes = new Changes();
        steps = new Steps();
        shelves = new Shelf[SHELVES];
        for (int i = 0; i < SHELVES; i++) {
            shelves[i] = new Shelf();
        }
    }

    // ---- reaches

    public int reach(int bank) {
        if (!River.fitsIn(River.BANK, bank)) {
            return BAD;
        }
        if (now.isFull()) {
            return FULL;
        }
        return now.lengthen(River.FIRST_LEVEL, bank, 0);
    }

    public int reaches(int shelf, int i, int n) {
        if (!isShelf(shelf) || n < 1 || n > River.MOST) {
            return BAD;
        }
        Shelf from = shelves[shelf];
        if (from.isBare()) {
            return 0;
        }
        if (!from.isBytes()) {
            return OTHER_KIND;
        }
        int came = 0;
        while (came < n && reachComesFrom(from, i + 3 * came)) {
            came++;
        }
        return came;
    }

    private boolean reachComesFrom(Shelf from, int place) {
        if (now.isFull() || !from.hasPlaces(place, 3)) {
            return false;
        }
        int level = from.small(place);
        int bank = from.small(place + 1);
        int gifts = from.small(place + 2);
        if (!River.fitsIn(River.LEVEL, level) || !River.fitsIn(River.BANK, bank) || !River.fitsIn(River.GIFTS, gifts)) {
            return false;
        }
        now.lengthen(level, bank, gifts);
        return true;
    }

    public int mend(int number, int what, int v) {
        if (!now.has(number, what) || !River.fitsIn(what, v)) {
            return BAD;
        }
        int was = now.numberOf(number, what);
        if (was != v) {
            now.become(number, what, v);
            changes.add(number, what, was, v);
        }
        return was;
    }

    public int of(int number, int what) {
        return now.has(number, what) ? now.numberOf(number, what) : BAD;
    }

    public int feed(int letter) {
        if (letter < 0 || letter > 255) {
            return BAD;
        }
        return tape.takes(letter) ? tape.length : FULL;
    }

    public int law() {
        int fault = tape.read();
        tape.clear();
        if (fault != LawReader.NO_FAULT) {
            return -100 - fault;
        }
        inForce = tape.handOver(inForce);
        return 1;
    }

    public int goes(int reach) {
        return isReach(reach) ? inForce.outOf(now, reach) : BAD;
    }

    // ---- days in thought

    public int later(int n, int reach, int what) {
        // A SIGN stands on a day, so its n begins at 1.
        if (!isReach(reach) || what < 0 || what > 1 || n < what || n > MOST_DAYS) {
            return BAD;
        }
        think(n - what);
        int ahead = thought.level[reach];
        if (what == 0) {
            return ahead;
        }
        thought.pass(1, inForce);
        return signOf(ahead, thought.level[reach]);
    }

    public int river(int n, int what) {
        if (n < 0 || n > MOST_DAYS || what < 0 || what > 1) {
            return BAD;
        }
        think(n);
        return what == 0 ? thought.overBits() : thought.levelOfAll();
    }

    public int over(int reach) {
        boolean ofAll = reach == -1;
        if (!ofAll && !isReach(reach)) {
            return BAD;
        }
        int wanted = ofAll ? -1 : 1 << reach;
        thought.take(now);
        for (int n = 0; n <= MOST_DAYS; n++) {
            int found = thought.overBits() & wanted;
            if (found != 0) {
                return ofAll ? Integer.numberOfTrailingZeros(found) : n;
            }
            thought.pass(1, inForce);
        }
        return NOT;
    }

    public int signs(int n, int reach, int what) {
        if (n < 0 || n > MOST_DAYS || !isReach(reach) || what < 0 || what > 2) {
            return BAD;
        }
        int rises = 0;
        int falls = 0;
        int run = 0;
        int longest = 0;
        thought.take(now);
        for (int i = 0; i < n; i++) {
            int ahead = thought.level[reach];
            thought.pass(1, inForce);
            int sign = signOf(ahead, thought.level[reach]);
            rises += sign == 1 ? 1 : 0;
            falls += sign == 2 ? 1 : 0;
            run = sign == 1 ? run + 1 : 0;
            longest = Math.max(longest, run);
        }
        return what == 0 ? rises : what == 1 ? falls : longest;
    }

    public int still() {
        thought.take(now);
        for (int n = 0; n <= MOST_DAYS; n++) {
            long levels = thought.levelsTogether();
            if (n >= WEEK && week[n % WEEK] == levels) {
                return n;
            }
            week[n % WEEK] = levels;
            thought.pass(1, inForce);
        }
        return NOT;
    }

    public int throwIn(int fr, int nx) {
        if (fr < 0 || nx < 0) {
            return BAD;
        }
        int into = fr / 10;
        int told = fr % 10;
        int n = nx / 100;
        if (!isReach(into) || !isReach(told) || n > MOST_NEAR_DAYS) {
            return BAD;
        }
        // What is thrown beyond the highest LEVEL changes nothing more.
        int room = River.HIGHEST - now.level[into];
        for (int v = 0; v <= room; v++) {
            thought.take(now);
            thought.level[into] += v;
            if (comesSafelyTo(nx % 100, told, n)) {
                return v;
            }
        }
        return NOT;
    }

    private boolean comesSafelyTo(int x, int told, int n) {
        boolean came = false;
        for (int i = 0; i <= n; i++) {
            if (thought.overBits() != 0) {
                return false;
            }
            came = came || thought.level[told] >= x;
            thought.pass(1, inForce);
        }
        return came;
    }

    public int bridges(int n, int what) {
        if (n < 0 || n > MOST_NEAR_DAYS || what < 0 || what > 1) {
            return BAD;
        }
        int fewest = River.MOST + 1;
        int lowest = 0;
        int which = 0;
        for (int way = 0; way < 1 << now.size; way++) {
            thinkBridged(way, n);
            int overs = Integer.bitCount(thought.overBits());
            int levels = thought.levelOfAll();
            boolean better = overs < fewest || overs == fewest && levels < lowest;
            boolean like = overs == fewest && levels == lowest;
            // Of like ways with as many BRIDGES the least came first.
            if (better || like && Integer.bitCount(way) < Integer.bitCount(which)) {
                fewest = overs;
                lowest = levels;
                which = way;
            }
        }
        return what == 0 ? fewest : which;
    }

    private void thinkBridged(int way, int n) {
        thought.take(now);
        for (int i = 0; i < thought.size; i++) {
            thought.bridge[i] = way >> i & 1;
        }
        thought.pass(n, inForce);
    }

    // ---- the ring, gauges, answers

    public int ring(int reach, int n) {
        if (!isReach(reach) || n < -1 || n > MOST_DAYS) {
            return BAD;
        }
        boolean asksWhen = n == -1;
        int days = asksWhen ? MOST_DAYS : n;
        int place = reach;
        thought.take(now);
        for (int i = 1; i <= days; i++) {
            thought.pass(1, inForce);
            place += thought.went[place] >= CARRIES_A_RING ? 1 : 0;
            if (place >= now.size) {
                return asksWhen ? i : GONE;
            }
        }
        return asksWhen ? NOT : place;
    }

    public int judge(int shelf, int reach) {
        if (!isShelf(shelf) || !isReach(reach)) {
            return BAD;
        }
        if (!shelves[shelf].isBytes()) {
            return shelves[shelf].isBare() ? NOTHING_THERE : OTHER_KIND;
        }
        thought.take(now);
        return firstUnlike(shelves[shelf], reach);
    }

    /** The first place of a GAUGE that is not as the thought river comes to be, or NOT. */
    private int firstUnlike(Shelf gauge, int reach) {
        int readings = Math.min(gauge.length, MOST_READ);
        for (int i = 0; i < readings; i++) {
            int reading = gauge.small(i);
            if (reading != NOT_READ && reading != thought.level[reach]) {
                return i;
            }
            thought.pass(1, inForce);
        }
        return NOT;
    }

    public int fits(int shelf, int reach, int number, int what) {
        if (!isShelf(shelf) || !isReach(reach) || what < 0 || what > 4) {
            return BAD;
        }
        int varied = what < 2 ? River.RAIN : what < 4 ? River.LEVEL : River.BRIDGE;
        if (!now.has(number, varied)) {
            return BAD;
        }
        if (!shelves[shelf].isBytes()) {
            return shelves[shelf].isBare() ? NOTHING_THERE : OTHER_KIND;
        }
        int many = 0;
        int least = NOT;
        int bits = 0;
        for (int v = River.most(varied); v >= 0; v--) {
            thought.take(now);
            thought.become(number, varied, v);
            if (firstUnlike(shelves[shelf], reach) == NOT) {
                many++;
                least = v;
                bits |= 1 << v;
            }
        }
        return what == 4 ? bits : what % 2 == 0 ? many : least;
    }

    public long hears(int shelf, int part) {
        if (!isShelf(shelf) || !shelves[shelf].isBytes() || part < 0 || part > 1) {
            return NO_LONG;
        }
        // Each rise when asked makes it twice as likely, each other SIGN then half; days not asked say nothing.
        int doublings = doublings(shelves[shelf]);
        long itHears = 1L << Math.max(doublings, 0);
        long itDoesNot = 1L << Math.max(-doublings, 0);
        return part == 0 ? itHears : itHears + itDoesNot;
    }

    public int odd(int shelf, int what) {
        if (!isShelf(shelf) || !shelves[shelf].isBytes() || what < 0 || what > 1) {
            return VOID;
        }
        Shelf answers = shelves[shelf];
        if (what == 0) {
            return answersOf(answers, 1, true) - answersOf(answers, 0, true);
        }
        // 11 of twelve or more: 2 to the doublings is 11 times 1 or more.
        return Math.max(0, SURE_ENOUGH - doublings(answers));
    }

    private static int doublings(Shelf answers) {
        return answersOf(answers, 1, true) - answersOf(answers, 1, false);
    }

    /** How many of the ANSWERS were asked (1) or not (0), and rose or did not. */
    private static int answersOf(Shelf answers, int asked, boolean rose) {
        int twos = Math.min(answers.length / 2, MOST_ANSWERS);
        int many = 0;
        for (int i = 0; i < twos; i++) {
            int was = answers.small(2 * i);
            int sign = answers.small(2 * i + 1);
            if (was < 0 || was > 1 || sign < 0 || sign > 2) {
                return many;
            }
            many += was == asked && (sign == 1) == rose ? 1 : 0;
        }
        return many;
    }

    public int byTurns(int ab, int nt, int what) {
        if (ab < 0 || nt < 0 || what < 0 || what > 1) {
            return VOID;
        }
        int one = ab / 10;
        int other = ab % 10;
        int n = nt / 100;
        int days = nt % 100;
        if (!isReach(one) || !isReach(other) || one == other || n < 1 || n > MOST_TURNS || days > MOST_NEAR_DAYS) {
            return VOID;
        }
        int first = NOTHING;
        int best = played(ab, now.level[one], now.level[other], 1, n, days);
        for (int way = THROWS; way <= TAKES; way++) {
            int comes = played(ab, handled(now.level[one], way), now.level[other], 1, n, days);
            if (comes > best) {
                best = comes;
                first = way;
            }
        }
        return what == 0 ? best : first;
    }

    /** What comes of it if both do their best from the turn-th time on; ab as told, with the LEVELS of both. */
    private int played(int ab, int ones, int others, int turn, int n, int days) {
        if (turn >= n || turn >= MOST_TURNS) {
            return differenceBehind(ab, ones, others, days);
        }
        boolean oneIsOn = turn % 2 == 0;
        int best = 0;
        for (int way = THROWS; way <= NOTHING; way++) {
            int comes = oneIsOn
                    ? played(ab, handled(ones, way), others, turn + 1, n, days)
                    : played(ab, ones, handled(others, way), turn + 1, n, days);
            if (way == THROWS || (oneIsOn ? comes > best : comes < best)) {
                best = comes;
            }
        }
        return best;
    }

    private int differenceBehind(int ab, int ones, int others, int days) {
        thought.take(now);
        thought.level[ab / 10] = ones;
        thought.level[ab % 10] = others;
        thought.pass(days, inForce);
        return thought.level[ab / 10] - thought.level[ab % 10];
    }

    private static int handled(int level, int way) {
        int more = way == THROWS ? HANDFUL : way == TAKES ? -HANDFUL : 0;
        return within(level + more, 0, River.HIGHEST);
    }

    public int drawn(int seed, int nmw, int reach) {
        int n = nmw / 10000;
        int m = nmw / 100 % 100;
        int wet = nmw % 100;
        if (nmw < 0 || n < 1 || n > 30 || m < 1 || m > MOST_DAYS || wet > 12 || reach != -1 && !isReach(reach)) {
            return BAD;
        }
        int wanted = reach == -1 ? -1 : 1 << reach;
        int z = seed;
        int many = 0;
        for (int i = 0; i < n * m; i++) {
            if (i % m == 0) {
                thought.take(now);
            }
            z = z * 1103515245 + 12345;
            thought.rain[thought.today] = (z >>> 16) % 12 < wet ? (z >>> 8) % 10 : 0;
            thought.pass(1, inForce);
            many += Integer.bitCount(thought.overBits() & wanted);
        }
        return many;
    }

    // ---- in deed

    public int day() {
        thought.take(now);
        now.pass(1, inForce);
        for (int i = 0; i < now.size; i++) {
            int sign = signOf(thought.level[i], now.level[i]);
            ledNow[LED_RISES] += sign == 1 ? 1 : 0;
            ledNow[LED_FALLS] += sign == 2 ? 1 : 0;
        }
        ledNow[LED_FLOODS] += Integer.bitCount(now.overBits() & ~thought.overBits());
        ledNow[LED_DAYS]++;
        return Integer.bitCount(now.overBits());
    }

    public int gift(int reach, int v) {
        if (!isReach(reach) || v < 0 || v > River.HIGHEST) {
            return BAD;
        }
        if (now.gifts[reach] >= River.most(River.GIFTS)) {
            return STATE;
        }
        now.gifts[reach]++;
        now.level[reach] = Math.min(now.level[reach] + v, River.HIGHEST);
        ledNow[LED_GIFTS]++;
        return now.level[reach];
    }

    public int build(int reach, int how) {
        if (!isReach(reach) || how < 0 || how > 1) {
            return BAD;
        }
        int was = now.bridge[reach];
        now.bridge[reach] = how;
        return was;
    }

    public int led(int what) {
        return what < 0 || what >= LED_NUMBERS ? BAD : ledNow[what];
    }

    public int image() {
        imaged.take(now);
        System.arraycopy(ledNow, 0, ledImaged, 0, LED_NUMBERS);
        hasImage = true;
        return ledNow[LED_DAYS];
    }

    public int back() {
        if (!hasImage) {
            return STATE;
        }
        now.takeWhatDeedsChange(imaged);
        System.arraycopy(ledImaged, 0, ledNow, 0, LED_NUMBERS);
        return ledNow[LED_DAYS];
    }

    public int undo() {
        return changes.unmake(now) ? changes.made : STATE;
    }

    public int redo() {
        return changes.makeAgain(now) ? changes.known - changes.made : STATE;
    }

    // ---- acts, shelves

    public int body(int kind) {
        if (!Steps.isKind(kind)) {
            return BAD;
        }
        return steps.isFull() ? FULL : steps.add(kind);
    }

    public int act(int body, int act, int x) {
        return steps.begin(body, act, x);
    }

    public int trace(int i) {
        return i < 0 || i >= steps.traced() ? BAD : steps.numbersThatRan[i];
    }

    public int keep(int shelf, int body) {
        if (!isShelf(shelf) || body != -1 && !steps.has(body)) {
            return BAD;
        }
        if (body == -1) {
            shelves[shelf].holdNothing();
        } else {
            shelves[shelf].holdStep(body);
        }
        return 1;
    }

    public int row(int shelf, int sort, int n) {
        if (!isShelf(shelf) || sort < 0 || sort > Shelf.BOOLEANS || n > Shelf.MOST) {
            return BAD;
        }
        if (n < 0) {
            return SIZE_BELOW_0;
        }
        shelves[shelf].holdRow(sort, n);
        return 1;
    }

    public int put(int shelf, int i, long v) {
        if (!isShelf(shelf)) {
            return BAD;
        }
        Shelf into = shelves[shelf];
        if (!into.isRow()) {
            return into.isBare() ? NOTHING_THERE : OTHER_KIND;
        }
        if (i < 0 || i >= into.length) {
            return NO_SUCH_PLACE;
        }
        into.elements[i] = into.cut(v);
        return 1;
    }

    public long element(int shelf, int i) {
        if (!isShelf(shelf) || !shelves[shelf].isRow() || i < 0 || i >= shelves[shelf].length) {
            return NO_LONG;
        }
        return shelves[shelf].elements[i];
    }

    public int shift(int shelf, int i, int other, int j, int n) {
        if (!isShelf(shelf) || !isShelf(other)) {
            return BAD;
        }
        Shelf from = shelves[shelf];
        Shelf to = shelves[other];
        if (from.isBare() || to.isBare()) {
            return NOTHING_THERE;
        }
        if (!from.isRow() || !to.isRow() || from.sort != to.sort) {
            return OTHER_KIND;
        }
        if (!from.hasPlaces(i, n) || !to.hasPlaces(j, n)) {
            return NO_SUCH_PLACE;
        }
        System.arraycopy(from.elements, i, to.elements, j, n);
        return n;
    }

    public int taken(int shelf, int k) {
        if (!isShelf(shelf) || !Steps.isKind(k)) {
            return BAD;
        }
        Shelf from = shelves[shelf];
        if (from.isBare()) {
            return NOTHING_THERE;
        }
        if (from.isRow() || !steps.has(from.step)) {
            return OTHER_KIND;
        }
        int kind = steps.kindOf(from.step);
        return Steps.isUnder(kind, k) ? kind : OTHER_KIND;
    }

    public int count(int what) {
        switch (what) {
            case 0:
                return now.size;
            case 1:
                return Integer.bitCount(now.overBits());
            case 2:
                return tape.length;
            case 3:
                return changes.made;
            case 4:
                return steps.size;
            case 5:
                return steps.ran;
            default:
                return BAD;
        }
    }

    private boolean isReach(int reach) {
        return reach >= 0 && reach < now.size;
    }

    private static boolean isShelf(int shelf) {
        return shelf >= 0 && shelf < SHELVES;
    }

    private void think(int days) {
        thought.take(now);
        thought.pass(days, inForce);
    }

    private static int signOf(int ahead, int behind) {
        return behind > ahead ? 1 : behind < ahead ? 2 : 0;
    }

    private static int within(int v, int least, int most) {
        return Math.max(least, Math.min(v, most));
    }

    /** All numbers that mend() knows, and how a day changes them. */
    private static final class River {
        static final int LEVEL = 0, BANK = 1, BRIDGE = 2, GIFTS = 3, RAIN = 4, SPRING = 5, TODAY = 6;
        static final int MOST = 8, HIGHEST = 99, FIRST_LEVEL = 30, FIRST_SPRING = 3;
        private static final int[] LEAST_OF = {0, 1, 0, 0, 0, 0, 0};
        private static final int[] MOST_OF = {HIGHEST, 99, 1, 9, 9, 9, 6};

        final int[] level;
        final int[] bank;
        final int[] bridge;
        final int[] gifts;
        final int[] rain;
        /** How much went from each REACH on the latest day that passed here. */
        final int[] went;
        int spring;
        int today;
        int size;

        River() {
            level = new int[MOST];
            bank = new int[MOST];
            bridge = new int[MOST];
            gifts = new int[MOST];
            rain = new int[WEEK];
            went = new int[MOST];
            spring = FIRST_SPRING;
        }

        static boolean fitsIn(int what, int v) {
            return what >= LEVEL && what <= TODAY && v >= LEAST_OF[what] && v <= MOST_OF[what];
        }

        static int most(int what) {
            return what >= LEVEL && what <= TODAY ? MOST_OF[what] : 0;
        }

        boolean isFull() {
            return size >= MOST;
        }

        int lengthen(int firstLevel, int itsBank, int itsGifts) {
            if (isFull()) {
                return FULL;
            }
            level[size] = firstLevel;
            bank[size] = itsBank;
            bridge[size] = 0;
            gifts[size] = itsGifts;
            return size++;
        }

        boolean has(int number, int what) {
            if (what < LEVEL || what > TODAY) {
                return false;
            }
            int many = what <= GIFTS ? size : what == RAIN ? WEEK : 1;
            return number >= 0 && number < many;
        }

        int numberOf(int number, int what) {
            if (!has(number, what)) {
                return BAD;
            }
            return what == SPRING ? spring : what == TODAY ? today : numbers(what)[number];
        }

        void become(int number, int what, int v) {
            if (!has(number, what) || !fitsIn(what, v)) {
                return;
            }
            if (what == SPRING) {
                spring = v;
            } else if (what == TODAY) {
                today = v;
            } else {
                numbers(what)[number] = v;
            }
        }

        private int[] numbers(int what) {
            switch (what) {
                case LEVEL:
                    return level;
                case BANK:
                    return bank;
                case BRIDGE:
                    return bridge;
                case GIFTS:
                    return gifts;
                default:
                    return rain;
            }
        }

        void take(River other) {
            size = other.size;
            takeWhatDeedsChange(other);
            System.arraycopy(other.bank, 0, bank, 0, size);
            System.arraycopy(other.rain, 0, rain, 0, WEEK);
            spring = other.spring;
        }

        void takeWhatDeedsChange(River other) {
            System.arraycopy(other.level, 0, level, 0, other.size);
            System.arraycopy(other.bridge, 0, bridge, 0, other.size);
            System.arraycopy(other.gifts, 0, gifts, 0, other.size);
            today = other.today;
        }

        void pass(int days, Law law) {
            for (int n = 0; n < days; n++) {
                // All that goes is told ahead of the first LEVEL that changes: the LAW looks at the next REACH, too.
                for (int i = 0; i < size; i++) {
                    went[i] = law.outOf(this, i);
                }
                int comes = spring;
                for (int i = 0; i < size; i++) {
                    level[i] = within(level[i] + rain[today] + comes - went[i], 0, HIGHEST);
                    comes = went[i];
                }
                today = (today + 1) % WEEK;
            }
        }

        int overBits() {
            int bits = 0;
            for (int i = 0; i < size; i++) {
                bits |= level[i] >= bank[i] ? 1 << i : 0;
            }
            return bits;
        }

        int levelOfAll() {
            int sum = 0;
            for (int i = 0; i < size; i++) {
                sum += level[i];
            }
            return sum;
        }

        /** All LEVELS in one number, unlike where one of them is: each takes 7 bits. */
        long levelsTogether() {
            long together = 0;
            for (int i = 0; i < size; i++) {
                together = together << 7 | level[i];
            }
            return together;
        }
    }

    /** A TEXT made ready: numbers stand for themselves, a sign as its negative, each behind what it works on. */
    private static final class Law {
        static final int MOST = LawReader.MOST + 1;
        // A - ahead of an O needs a code unlike that of the one between two; no TEXT has a ~.
        static final int END = -';', IF = -'?', NONE_OF = -'!', NEGATIVE = -'~';
        private static final int MOST_GOES = 20;

        private final int[] codes;
        private final int[] stack;
        private int size;

        Law() {
            codes = new int[MOST];
            stack = new int[MOST];
        }

        void clear() {
            size = 0;
        }

        void add(int code) {
            if (size < MOST) {
                codes[size++] = code;
            }
        }

        /** How much goes from a REACH of a river on the day that it stands at. */
        int outOf(River river, int reach) {
            int told = size == 0 ? withoutText(river, reach) : workedOut(river, reach);
            return Math.min(within(told, 0, MOST_GOES), river.level[reach]);
        }

        private static int withoutText(River river, int reach) {
            return river.level[reach] / 5 - 2 * river.bridge[reach] - river.gifts[reach] / 3;
        }

        private int workedOut(River river, int reach) {
            int top = 0;
            boolean counts = true;
            for (int at = 0; at < size; at++) {
                int code = codes[at];
                if (!counts) {
                    counts = code == END;
                } else if (code == END) {
                    return top > 0 ? stack[top - 1] : 0;
                } else if (code == IF) {
                    counts = top > 0 && stack[top - 1] != 0;
                    top = 0;
                } else if (code == NEGATIVE || code == NONE_OF) {
                    if (top > 0) {
                        stack[top - 1] = code == NEGATIVE ? -stack[top - 1] : stack[top - 1] == 0 ? 1 : 0;
                    }
                } else if (code >= 0 || isName(-code)) {
                    if (top < MOST) {
                        stack[top++] = code >= 0 ? code : named(-code, river, reach);
                    }
                } else if (top > 1) {
                    top--;
                    stack[top - 1] = joined(stack[top - 1], -code, stack[top]);
                }
            }
            return 0;
        }

        static boolean isName(int sign) {
            return sign == 'l' || sign == 'n' || sign == 'r' || sign == 'g' || sign == 'b' || sign == 'd';
        }

        private static int named(int name, River river, int reach) {
            switch (name) {
                case 'l':
                    return river.level[reach];
                case 'n':
                    return reach + 1 < river.size ? river.level[reach + 1] : 0;
                case 'r':
                    return river.rain[river.today];
                case 'g':
                    return river.gifts[reach];
                case 'b':
                    return river.bridge[reach];
                default:
                    return river.today;
            }
        }

        private static int joined(int left, int sign, int right) {
            switch (sign) {
                case '|':
                    return left != 0 || right != 0 ? 1 : 0;
                case '&':
                    return left != 0 && right != 0 ? 1 : 0;
                case '<':
                    return left < right ? 1 : 0;
                case '=':
                    return left == right ? 1 : 0;
                case '>':
                    return left > right ? 1 : 0;
                case '+':
                    return left + right;
                case '-':
                    return left - right;
                case '*':
                    return left * right;
                case '/':
                    return right == 0 ? 0 : left / right;
                default:
                    return right == 0 ? 0 : left % right;
            }
        }
    }

    /** THE TAPE, and how a TEXT on it is read: each part answers whether it is there, and stands at the FAULT if not. */
    private static final class LawReader {
        static final int MOST = 120, NO_FAULT = -1;
        private static final int MOST_OPEN = 6, MOST_DIGITS = 4, TEXT_ENDS = -1;

        private final int[] letters;
        int length;
        private int at;
        private Law made;

        LawReader() {
            letters = new int[MOST];
            made = new Law();
        }

        boolean takes(int letter) {
            if (length >= MOST) {
                return false;
            }
            letters[length++] = letter;
            return true;
        }

        void clear() {
            length = 0;
        }

        /** Makes a LAW of THE TAPE: its FAULT, or NO_FAULT. */
        int read() {
            made.clear();
            at = 0;
            return lines() ? NO_FAULT : at;
        }

        /** The LAW made last, for a former one whose room the next one takes. */
        Law handOver(Law former) {
            Law ready = made;
            made = former;
            return ready;
        }

        private int next() {
            return at >= 0 && at < length ? letters[at] : TEXT_ENDS;
        }

        private boolean passes(int letter) {
            boolean there = next() == letter;
            at += there ? 1 : 0;
            return there;
        }

        private boolean lines() {
            boolean good = line();
            for (int i = 0; good && at < length && i < MOST; i++) {
                good = passes(';') && line();
            }
            return good;
        }

        private boolean line() {
            boolean good = either(0);
            if (good && passes('?')) {
                made.add(Law.IF);
                good = either(0);
            }
            made.add(Law.END);
            return good;
        }

        /** E; open tells how many of ( ! - are open around it. */
        private boolean either(int open) {
            boolean good = both(open);
            for (int i = 0; good && i < MOST && passes('|'); i++) {
                good = both(open);
                made.add(-'|');
            }
            return good;
        }

        /** A. */
        private boolean both(int open) {
            boolean good = compared(open);
            for (int i = 0; good && i < MOST && passes('&'); i++) {
                good = compared(open);
                made.add(-'&');
            }
            return good;
        }

        /** B. */
        private boolean compared(int open) {
            if (!sum(open)) {
                return false;
            }
            int sign = next();
            if (sign != '<' && sign != '=' && sign != '>') {
                return true;
            }
            at++;
            boolean good = sum(open);
            made.add(-sign);
            return good;
        }

        /** S. */
        private boolean sum(int open) {
            boolean good = product(open);
            int sign = next();
            for (int i = 0; good && (sign == '+' || sign == '-') && i < MOST; i++) {
                at++;
                good = product(open);
                made.add(-sign);
                sign = next();
            }
            return good;
        }

        /** P. */
        private boolean product(int open) {
            boolean good = operand(open);
            int sign = next();
            for (int i = 0; good && (sign == '*' || sign == '/' || sign == '%') && i < MOST; i++) {
                at++;
                good = operand(open);
                made.add(-sign);
                sign = next();
            }
            return good;
        }

        /** O. */
        private boolean operand(int open) {
            int sign = next();
            if (isDigit(sign)) {
                number();
                return true;
            }
            if (Law.isName(sign)) {
                at++;
                made.add(-sign);
                return true;
            }
            if (open >= MOST_OPEN || sign != '(' && sign != '!' && sign != '-') {
                return false;
            }
            at++;
            if (sign == '(') {
                return either(open + 1) && passes(')');
            }
            boolean good = operand(open + 1);
            made.add(sign == '-' ? Law.NEGATIVE : Law.NONE_OF);
            return good;
        }

        private void number() {
            int told = 0;
            for (int i = 0; i < MOST_DIGITS && isDigit(next()); i++) {
                told = 10 * told + next() - '0';
                at++;
            }
            made.add(told);
        }

        private static boolean isDigit(int sign) {
            return sign >= '0' && sign <= '9';
        }
    }

    /** The CHANGES, the oldest first: those made, and behind them those that were UNDONE. */
    private static final class Changes {
        private static final int MOST = 40;

        private final int[] number;
        private final int[] what;
        private final int[] was;
        private final int[] became;
        int made;
        int known;

        Changes() {
            number = new int[MOST];
            what = new int[MOST];
            was = new int[MOST];
            became = new int[MOST];
        }

        void add(int itsNumber, int itsWhat, int itWas, int itBecame) {
            if (made >= MOST) {
                forgetOldest();
            }
            number[made] = itsNumber;
            what[made] = itsWhat;
            was[made] = itWas;
            became[made] = itBecame;
            made++;
            known = made;
        }

        private void forgetOldest() {
            System.arraycopy(number, 1, number, 0, MOST - 1);
            System.arraycopy(what, 1, what, 0, MOST - 1);
            System.arraycopy(was, 1, was, 0, MOST - 1);
            System.arraycopy(became, 1, became, 0, MOST - 1);
            made = MOST - 1;
        }

        boolean unmake(River river) {
            if (made <= 0) {
                return false;
            }
            made--;
            river.become(number[made], what[made], was[made]);
            return true;
        }

        boolean makeAgain(River river) {
            if (made >= known) {
                return false;
            }
            river.become(number[made], what[made], became[made]);
            made++;
            return true;
        }
    }

    /** The BODIES, and what their acts do. */
    private static final class Steps {
        private static final int MOST = 50, MOST_TRACED = 24, KINDS = 8, ACTS = 4, DEEPEST = 40;
        private static final int FLOWS = 0, SAYS = 1, FLOODS = 2, TELLS = 3;
        private static final int NO_KIND = -1, NO_BODY = 0;
        /** The KIND above each KIND. */
        private static final int[] ABOVE = {NO_KIND, 0, 0, 2, 1, 3, 0, 4};
        /** The bodies of each KIND's own acts, a row a KIND; those of FLOWS and TELLS stand with STEP. */
        private static final int[] OWN = {
            1, 10, 11, 2,
            20, 0, 0, 0,
            0, 30, 0, 0,
            0, 41, 40, 0,
            0, 0, 50, 0,
            0, 0, 0, 60,
            70, 0, 0, 0,
            0, 80, 0, 81,
        };

        private final int[] kinds;
        final int[] numbersThatRan;
        int size;
        int ran;

        Steps() {
            kinds = new int[MOST];
            numbersThatRan = new int[MOST_TRACED];
        }

        static boolean isKind(int kind) {
            return kind >= 0 && kind < KINDS;
        }

        static boolean isAct(int act) {
            return act >= 0 && act < ACTS;
        }

        static boolean isUnder(int kind, int upper) {
            int at = kind;
            for (int i = 0; i < KINDS && isKind(at); i++) {
                if (at == upper) {
                    return true;
                }
                at = ABOVE[at];
            }
            return false;
        }

        boolean isFull() {
            return size >= MOST;
        }

        boolean has(int step) {
            return step >= 0 && step < size;
        }

        int add(int kind) {
            if (isFull()) {
                return FULL;
            }
            kinds[size] = kind;
            return size++;
        }

        int kindOf(int step) {
            return has(step) ? kinds[step] : NO_KIND;
        }

        int traced() {
            return Math.min(ran, MOST_TRACED);
        }

        /** An act of a step with a new TRACE: 0 if there is no such step or act. */
        int begin(int step, int act, int x) {
            ran = 0;
            return has(step) && isAct(act) ? perform(step, act, kinds[step], x, 0) : 0;
        }

        /** An act of a step, by the body that is found from a KIND upward. */
        private int perform(int step, int act, int from, int x, int depth) {
            int kind = from;
            for (int i = 0; i < KINDS && isKind(kind) && OWN[ACTS * kind + act] == NO_BODY; i++) {
                kind = ABOVE[kind];
            }
            if (!isKind(kind) || depth > DEEPEST) {
                return 0;
            }
            int number = OWN[ACTS * kind + act];
            note(number);
            return run(number, step, ABOVE[kind], x, depth + 1);
        }

        private void note(int number) {
            if (ran < MOST_TRACED) {
                numbersThatRan[ran] = number;
            }
            ran++;
        }

        /** One body: own acts go by the step's own KIND, those of super by the KIND above the body's. */
        private int run(int number, int step, int above, int x, int depth) {
            int own = kindOf(step);
            switch (number) {
                case 1:
                    return x + step;
                case 2:
                    return perform(step, SAYS, own, x, depth) - perform(step, FLOODS, own, 1, depth);
                case 10:
                    return perform(step, FLOWS, own, x, depth) * 2;
                case 11:
                    return x ^ step;
                case 20:
                    return perform(step, FLOWS, above, x, depth) + 3;
                case 30:
                    return -perform(step, SAYS, above, x, depth);
                case 40:
                    return perform(step, FLOODS, above, x, depth) * 3;
                case 41:
                    return perform(step, SAYS, above, x + 1, depth);
                case 50:
                    return perform(step, FLOODS, above, x, depth) - perform(step, FLOWS, own, 2, depth);
                case 60:
                    return perform(step, TELLS, above, x, depth) ^ 5;
                case 70:
                    return perform(step, FLOWS, above, x, depth) * 2;
                case 80:
                    return perform(step, SAYS, above, x, depth) + perform(step, FLOODS, own, 2, depth);
                default:
                    return perform(step, TELLS, above, x, depth) - 1;
            }
        }
    }

    /** One SHELF; its row's room is made once and used for every sort. */
    private static final class Shelf {
        static final int MOST = 60, BOOLEANS = 4;
        private static final int BYTES = 0, SHORTS = 1, INTS = 2, LONGS = 3;
        private static final int BARE = 0, STEP = 1, ROW = 2;

        private int holds;
        int step;
        int sort;
        int length;
        final long[] elements;

        Shelf() {
            elements = new long[MOST];
        }

        boolean isBare() {
            return holds == BARE;
        }

        boolean isRow() {
            return holds == ROW;
        }

        boolean isBytes() {
            return holds == ROW && sort == BYTES;
        }

        void holdNothing() {
            holds = BARE;
        }

        void holdStep(int number) {
            holds = STEP;
            step = number;
        }

        void holdRow(int itsSort, int n) {
            holds = ROW;
            sort = itsSort;
            length = Math.max(0, Math.min(n, MOST));
            for (int i = 0; i < length; i++) {
                elements[i] = 0;
            }
        }

        boolean hasPlaces(int from, int n) {
            return from >= 0 && n >= 0 && n <= length && from <= length - n;
        }

        int small(int place) {
            return place >= 0 && place < length ? (int) elements[place] : 0;
        }

        /** What a row of this sort keeps of a number. */
        long cut(long v) {
            switch (sort) {
                case BYTES:
                    return (byte) v;
                case SHORTS:
                    return (short) v;
                case INTS:
                    return (int) v;
                case LONGS:
                    return v;
                default:
                    return v != 0 ? 1 : 0;
            }
        }
    }
}
