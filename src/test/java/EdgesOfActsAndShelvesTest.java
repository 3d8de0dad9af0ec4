/** The edges that the document names of BODIES, acts, SHELVES and counts: Terms 5; promises 31 to 40. */
public final class EdgesOfActsAndShelvesTest {
    private static final Check check = new Check();
    private static final int BAD = RiverHand.BAD;
    private static final long NONE = Long.MIN_VALUE;
    private static final int FLOWS = 0, SAYS = 1, FLOODS = 2, TELLS = 3;
    private static final int STEP = 0, QUAY = 1, MAYOR = 2, SALMON = 3, BANNS = 4, CHILD = 5, MUD = 6, ARCH = 7;
    private static final int[] NO_SHELVES = {-1, 6, Integer.MIN_VALUE, Integer.MAX_VALUE};

    public static void main(String[] args) {
        fiftyBodies();
        kinds();
        kindsUnderKinds();
        actsWrap();
        itsNumber();
        stepsOwn();
        quay();
        mayor();
        salmon();
        banns();
        child();
        mud();
        arch();
        ownKindFirst();
        superFromAbove();
        traceAsTheyBegan();
        latestAct();
        noSuchStepOrAct();
        trace();
        sixShelves();
        nothingAtFirst();
        sixtyElements();
        zeroAtFirst();
        sorts();
        lowestBits();
        booleans();
        keep();
        row();
        sizeBelowZero();
        put();
        element();
        shift();
        asTheyAllWereBefore();
        shiftNothing();
        shiftOtherKinds();
        shiftPlaces();
        takenOrUnder();
        taken();
        countReaches();
        countOver();
        countOnTape();
        countChanges();
        countBodies();
        countThatRan();
        count();
        check.finish();
    }

    /** Eight bodies, each of the KIND that its number is. */
    private static RiverHand kindsByNumber() {
        RiverHand hand = new RiverHand();
        for (int kind = 0; kind <= 7; kind++) {
            hand.body(kind);
        }
        return hand;
    }

    /** An act's answer, and the bodies that ran. */
    private static void ran(RiverHand hand, int body, int act, int x, int due, int... numbers) {
        String call = "act(" + body + ", " + act + ", " + x + ")";
        check.due(call, hand.act(body, act, x), due);
        check.due(call + " ran", hand.count(5), numbers.length);
        for (int i = 0; i < numbers.length; i++) {
            check.due(call + " trace " + i, hand.trace(i), numbers[i]);
        }
        check.due(call + " behind the last", hand.trace(numbers.length), BAD);
    }

    private static void fiftyBodies() {
        check.says("STEPS' ways are kept by call as BODIES 0 .. 49");
        RiverHand hand = new RiverHand();
        for (int i = 0; i <= 49; i++) {
            check.due("body " + i, hand.body(i % 8), i);
        }
        check.due("the 51st", hand.body(0), RiverHand.FULL);
        check.due("fifty", hand.count(4), 50);
        check.due("the last acts", hand.act(49, FLOWS, 1), 1 + 49 + 3);
        check.due("no body 50", hand.act(50, FLOWS, 1), 0);
    }

    private static void kinds() {
        check.says("A STEP of a KIND (0 .. 7) is kept: its number. BAD, FULL.");
        RiverHand hand = new RiverHand();
        for (int kind : new int[] {-1, 8, Integer.MIN_VALUE, Integer.MAX_VALUE}) {
            check.due("kind " + kind, hand.body(kind), BAD);
        }
        check.due("none yet", hand.count(4), 0);
        check.due("kind 0", hand.body(0), 0);
        check.due("kind 7", hand.body(7), 1);
        for (int i = 2; i <= 49; i++) {
            hand.body(0);
        }
        check.due("BAD ahead of FULL", hand.body(8), BAD);
        check.due("FULL", hand.body(7), RiverHand.FULL);
    }

    private static void kindsUnderKinds() {
        check.says("of KINDS: 0 STEP; 1 QUAY under STEP; 2 MAYOR under STEP; 3 SALMON under MAYOR; 4 BANNS under QUAY; 5 CHILD under SALMON; 6 MUD under STEP; 7 ARCH under BANNS.");
        RiverHand hand = kindsByNumber();
        int[] above = {STEP, STEP, STEP, MAYOR, QUAY, SALMON, STEP, BANNS};
        for (int kind = 1; kind <= 7; kind++) {
            hand.keep(0, kind);
            check.due(kind + " is under " + above[kind], hand.taken(0, above[kind]), kind);
            hand.keep(0, above[kind]);
            check.due(above[kind] + " is not under " + kind, hand.taken(0, kind), -12);
        }
        hand.keep(0, ARCH);
        check.due("ARCH is no MUD, the next one", hand.taken(0, MUD), -12);
    }

    private static void actsWrap() {
        check.says("ACTS with x (an int that wraps): 0 flows, 1 says, 2 floods, 3 tells");
        RiverHand hand = kindsByNumber();
        int most = Integer.MAX_VALUE;
        int least = Integer.MIN_VALUE;
        check.due("flows", hand.act(QUAY, FLOWS, most), least + 3);
        check.due("says: 2 times", hand.act(STEP, SAYS, 1 << 30), least);
        check.due("says: less", hand.act(MAYOR, SAYS, (1 << 30) - 2), least);
        check.due("says: x + 1", hand.act(SALMON, SAYS, most), -(2 * (least + 3)));
        check.due("floods: 3 times", hand.act(SALMON, FLOODS, most ^ 3), 3 * most);
        check.due("tells", hand.act(STEP, TELLS, 1 << 30), most);
        check.due("x 0", hand.act(STEP, FLOWS, 0), 0);
        check.due("x below 0", hand.act(STEP, SAYS, -7), -14);
    }

    private static void itsNumber() {
        check.says("n its number");
        RiverHand hand = new RiverHand();
        hand.body(MUD);
        for (int i = 1; i <= 20; i++) {
            hand.body(STEP);
        }
        check.due("0", hand.act(0, FLOWS, 5), 10);
        check.due("20", hand.act(20, FLOWS, 5), 25);
        check.due("20 in floods", hand.act(20, FLOODS, 5), 5 ^ 20);
    }

    private static void stepsOwn() {
        check.says("FLOWS (an interface of STEP): 1 flows: x + n. STEP: 10 says: flows(x) * 2. 11 floods: x ^ n. TELLS (of STEP): 2 tells: says(x) - floods(1).");
        RiverHand hand = new RiverHand();
        hand.body(STEP);
        hand.body(STEP);
        ran(hand, 1, FLOWS, 10, 11, 1);
        ran(hand, 1, SAYS, 10, 22, 10, 1);
        ran(hand, 1, FLOODS, 10, 11, 11);
        ran(hand, 1, TELLS, 10, 22, 2, 10, 1, 11);
        ran(hand, 0, TELLS, 10, 19, 2, 10, 1, 11);
    }

    private static void quay() {
        check.says("QUAY: 20 flows: super.flows(x) + 3.");
        RiverHand hand = kindsByNumber();
        ran(hand, QUAY, FLOWS, 10, 14, 20, 1);
        ran(hand, QUAY, SAYS, 10, 28, 10, 20, 1);
        ran(hand, QUAY, FLOODS, 10, 11, 11);
        ran(hand, QUAY, TELLS, 10, 28, 2, 10, 20, 1, 11);
    }

    private static void mayor() {
        check.says("MAYOR: 30 says: -super.says(x).");
        RiverHand hand = kindsByNumber();
        ran(hand, MAYOR, FLOWS, 10, 12, 1);
        ran(hand, MAYOR, SAYS, 10, -24, 30, 10, 1);
        ran(hand, MAYOR, FLOODS, 10, 8, 11);
        ran(hand, MAYOR, TELLS, 10, -27, 2, 30, 10, 1, 11);
    }

    private static void salmon() {
        check.says("SALMON: 40 floods: super.floods(x) * 3. 41 says: super.says(x + 1).");
        RiverHand hand = kindsByNumber();
        ran(hand, SALMON, FLOWS, 10, 13, 1);
        ran(hand, SALMON, SAYS, 10, -28, 41, 30, 10, 1);
        ran(hand, SALMON, FLOODS, 10, 27, 40, 11);
        ran(hand, SALMON, TELLS, 10, -34, 2, 41, 30, 10, 1, 40, 11);
    }

    private static void banns() {
        check.says("BANNS: 50 floods: super.floods(x) - flows(2).");
        RiverHand hand = kindsByNumber();
        ran(hand, BANNS, FLOWS, 10, 17, 20, 1);
        ran(hand, BANNS, SAYS, 10, 34, 10, 20, 1);
        ran(hand, BANNS, FLOODS, 10, 14 - 9, 50, 11, 20, 1);
        ran(hand, BANNS, TELLS, 10, 34 - (5 - 9), 2, 10, 20, 1, 50, 11, 20, 1);
    }

    private static void child() {
        check.says("CHILD: 60 tells: super.tells(x) ^ 5.");
        RiverHand hand = kindsByNumber();
        ran(hand, CHILD, FLOWS, 10, 15, 1);
        ran(hand, CHILD, SAYS, 10, -32, 41, 30, 10, 1);
        ran(hand, CHILD, FLOODS, 10, 45, 40, 11);
        ran(hand, CHILD, TELLS, 10, (-32 - 12) ^ 5, 60, 2, 41, 30, 10, 1, 40, 11);
    }

    private static void mud() {
        check.says("MUD: 70 flows: super.flows(x) * 2.");
        RiverHand hand = kindsByNumber();
        ran(hand, MUD, FLOWS, 10, 32, 70, 1);
        ran(hand, MUD, SAYS, 10, 64, 10, 70, 1);
        ran(hand, MUD, FLOODS, 10, 12, 11);
        ran(hand, MUD, TELLS, 10, 57, 2, 10, 70, 1, 11);
    }

    private static void arch() {
        check.says("ARCH: 80 says: super.says(x) + floods(2). 81 tells: super.tells(x) - 1.");
        RiverHand hand = kindsByNumber();
        // floods(2) is (2 ^ 7) - flows(2), which is 5 - 12; floods(1) is 6 - 12.
        ran(hand, ARCH, FLOWS, 10, 20, 20, 1);
        ran(hand, ARCH, SAYS, 10, 40 - 7, 80, 10, 20, 1, 50, 11, 20, 1);
        ran(hand, ARCH, FLOODS, 10, 13 - 12, 50, 11, 20, 1);
        ran(hand, ARCH, TELLS, 10, 33 + 6 - 1, 81, 2, 80, 10, 20, 1, 50, 11, 20, 1, 50, 11, 20, 1);
    }

    private static void ownKindFirst() {
        check.says("the body of its own KIND, or of the next KIND above that has one");
        RiverHand hand = kindsByNumber();
        int[][] firsts = {
            {1, 10, 11, 2}, {20, 10, 11, 2}, {1, 30, 11, 2}, {1, 41, 40, 2},
            {20, 10, 50, 2}, {1, 41, 40, 60}, {70, 10, 11, 2}, {20, 80, 50, 81},
        };
        for (int kind = 0; kind <= 7; kind++) {
            for (int act = 0; act <= 3; act++) {
                hand.act(kind, act, 1);
                check.due("the first body of KIND " + kind + ", act " + act, hand.trace(0), firsts[kind][act]);
            }
        }
    }

    private static void superFromAbove() {
        check.says("super: from the KIND above the body's on.");
        RiverHand hand = kindsByNumber();
        // 41 is SALMON's, above it is MAYOR with 30, though a CHILD asks.
        hand.act(CHILD, SAYS, 1);
        check.due("behind 41", hand.trace(1), 30);
        // 50 is BANNS', above it is QUAY, which has none, then STEP with 11, though an ARCH asks.
        hand.act(ARCH, FLOODS, 1);
        check.due("behind 50", hand.trace(1), 11);
        // 80 is ARCH's, above it are BANNS and QUAY, which have none, then STEP with 10.
        hand.act(ARCH, SAYS, 1);
        check.due("behind 80", hand.trace(1), 10);
        check.due("flows(..) by its own KIND again", hand.trace(2), 20);
    }

    private static void traceAsTheyBegan() {
        check.says("THE TRACE: numbers of the bodies that ran in the latest act(), as they began; the first 24 are kept.");
        RiverHand hand = kindsByNumber();
        // The most that any act runs are 14, so that none ever falls out of the 24.
        ran(hand, ARCH, TELLS, 0, hand.act(ARCH, TELLS, 0), 81, 2, 80, 10, 20, 1, 50, 11, 20, 1, 50, 11, 20, 1);
        check.due("the 24th", hand.trace(23), BAD);
        check.due("the 25th", hand.trace(24), BAD);
    }

    private static void latestAct() {
        check.says("in the latest act()");
        RiverHand hand = kindsByNumber();
        hand.act(ARCH, TELLS, 5);
        ran(hand, STEP, FLOWS, 5, 5, 1);
        hand.act(STEP, FLOODS, 5);
        hand.body(0);
        hand.keep(0, 0);
        hand.taken(0, 0);
        check.due("other calls leave it", hand.trace(0), 11);
        check.due("one", hand.count(5), 1);
    }

    private static void noSuchStepOrAct() {
        check.says("An ACT (0 .. 3) of a STEP with x. 0, and no TRACE then: no such STEP, ACT.");
        RiverHand hand = new RiverHand();
        check.due("none kept", hand.act(0, FLOWS, 5), 0);
        hand.body(QUAY);
        for (int none : new int[] {-1, 1, 50, Integer.MIN_VALUE, Integer.MAX_VALUE}) {
            check.due("there is a TRACE", hand.act(0, FLOWS, 5), 8);
            ran(hand, none, FLOWS, 5, 0);
        }
        for (int none : new int[] {-1, 4, Integer.MIN_VALUE, Integer.MAX_VALUE}) {
            check.due("there is a TRACE", hand.act(0, TELLS, 5), 15);
            ran(hand, 0, none, 5, 0);
        }
    }

    private static void trace() {
        check.says("THE TRACE's i-th body. BAD.");
        RiverHand hand = new RiverHand();
        check.due("none yet", hand.trace(0), BAD);
        hand.body(QUAY);
        hand.act(0, FLOWS, 1);
        check.due("0", hand.trace(0), 20);
        check.due("1", hand.trace(1), 1);
        for (int i : new int[] {-1, 2, 24, Integer.MIN_VALUE, Integer.MAX_VALUE}) {
            check.due("trace(" + i + ")", hand.trace(i), BAD);
        }
    }

    private static void sixShelves() {
        check.says("SHELVES 0 .. 5 each hold nothing (at first), a STEP (a BODY), or a ROW");
        RiverHand hand = new RiverHand();
        hand.body(QUAY);
        for (int shelf = 0; shelf <= 5; shelf++) {
            check.due("row", hand.row(shelf, 2, 1), 1);
            check.due("put", hand.put(shelf, 0, 70 + shelf), 1);
        }
        for (int shelf = 0; shelf <= 5; shelf++) {
            check.due("each its own", hand.element(shelf, 0), 70 + shelf);
        }
        check.due("keep", hand.keep(5, 0), 1);
        check.due("a STEP instead of a ROW", hand.taken(5, 0), QUAY);
        check.due("a ROW instead of a STEP", hand.row(5, 0, 1), 1);
        check.due("a ROW", hand.taken(5, 0), -12);
        check.due("0 at first", hand.element(5, 0), 0);
    }

    private static void nothingAtFirst() {
        check.says("each hold nothing (at first)");
        RiverHand hand = new RiverHand();
        for (int shelf = 0; shelf <= 5; shelf++) {
            check.due("taken", hand.taken(shelf, 0), -11);
            check.due("put", hand.put(shelf, 0, 1), -11);
            check.due("element", hand.element(shelf, 0), NONE);
        }
    }

    private static void sixtyElements() {
        check.says("of 0 .. 60 elements");
        RiverHand hand = new RiverHand();
        for (int sort = 0; sort <= 4; sort++) {
            check.due("61", hand.row(0, sort, 61), BAD);
            check.due("60", hand.row(0, sort, 60), 1);
            check.due("the 60th", hand.put(0, 59, 1), 1);
            check.due("the 60th", hand.element(0, 59), 1);
            check.due("the 61st", hand.put(0, 60, 1), -13);
            check.due("0", hand.row(0, sort, 0), 1);
            check.due("the first of none", hand.put(0, 0, 1), -13);
            check.due("the first of none", hand.element(0, 0), NONE);
        }
    }

    private static void zeroAtFirst() {
        check.says("0 at first (false)");
        RiverHand hand = new RiverHand();
        for (int sort = 0; sort <= 4; sort++) {
            hand.row(0, sort, 3);
            for (int i = 0; i < 3; i++) {
                check.due("at first", hand.element(0, i), 0);
                hand.put(0, i, 1);
            }
            hand.row(0, sort, 3);
            check.due("the same row made anew", hand.element(0, 2), 0);
            hand.put(0, 2, 1);
            hand.row(0, sort, 1);
            hand.row(0, sort, 3);
            check.due("behind a shorter one", hand.element(0, 2), 0);
        }
    }

    private static void sorts() {
        check.says("of 0 bytes, 1 shorts, 2 ints, 3 longs, 4 booleans");
        RiverHand hand = new RiverHand();
        long[] due = {-1, 0x7FFF, 0x7FFFFFFF, Long.MAX_VALUE, 1};
        long[] v = {0x7FFF, 0xFFFF7FFFL, 0xFFFFFFFF7FFFFFFFL, Long.MAX_VALUE, Long.MAX_VALUE};
        for (int sort = 0; sort <= 4; sort++) {
            check.due("sort " + sort, hand.row(0, sort, 1), 1);
            hand.put(0, 0, v[sort]);
            check.due("of sort " + sort, hand.element(0, 0), due[sort]);
        }
        check.due("sort 5", hand.row(0, 5, 1), BAD);
        check.due("sort -1", hand.row(0, -1, 1), BAD);
    }

    private static void lowestBits() {
        check.says("what is put in keeps its lowest bits");
        RiverHand hand = new RiverHand();
        long[] puts = {127, 128, -128, -129, 255, 256, 32767, 32768, -32769, 65536, 2147483647L, 2147483648L,
            -2147483649L, 4294967296L, Long.MAX_VALUE, Long.MIN_VALUE, -1};
        for (long v : puts) {
            long[] due = {(byte) v, (short) v, (int) v, v};
            for (int sort = 0; sort <= 3; sort++) {
                hand.row(0, sort, 1);
                check.due("put " + v, hand.put(0, 0, v), 1);
                check.due(v + " of sort " + sort, hand.element(0, 0), due[sort]);
            }
        }
        hand.row(0, 0, 1);
        hand.put(0, 0, 200);
        check.due("200 as a byte", hand.element(0, 0), -56);
        hand.row(0, 1, 1);
        hand.put(0, 0, 40000);
        check.due("40000 as a short", hand.element(0, 0), -25536);
    }

    private static void booleans() {
        check.says("(a boolean: whether it is not 0; 1 or 0)");
        RiverHand hand = new RiverHand();
        hand.row(0, 4, 1);
        for (long v : new long[] {1, 2, -1, 256, 1L << 32, 1L << 63, Long.MAX_VALUE}) {
            hand.put(0, 0, v);
            check.due(v + "", hand.element(0, 0), 1);
            hand.put(0, 0, 0);
            check.due("0", hand.element(0, 0), 0);
        }
    }

    private static void keep() {
        check.says("A SHELF holds nothing (body -1), or a STEP: 1. BAD.");
        RiverHand hand = new RiverHand();
        check.due("no body yet", hand.keep(0, 0), BAD);
        hand.body(MUD);
        hand.body(ARCH);
        for (int shelf : NO_SHELVES) {
            check.due("shelf " + shelf, hand.keep(shelf, 0), BAD);
            check.due("shelf " + shelf + ", nothing", hand.keep(shelf, -1), BAD);
        }
        check.due("the last body", hand.keep(0, 1), 1);
        for (int body : new int[] {-2, 2, 50, Integer.MIN_VALUE, Integer.MAX_VALUE}) {
            check.due("body " + body, hand.keep(0, body), BAD);
        }
        check.due("it holds the last body still", hand.taken(0, 0), ARCH);
        check.due("nothing", hand.keep(0, -1), 1);
        check.due("nothing there", hand.taken(0, 0), -11);
        check.due("nothing once more", hand.keep(0, -1), 1);
    }

    private static void row() {
        check.says("A SHELF holds a ROW: 1. BAD (sort, n above 60); -14.");
        RiverHand hand = new RiverHand();
        for (int shelf : NO_SHELVES) {
            check.due("shelf " + shelf, hand.row(shelf, 0, 1), BAD);
            check.due("shelf " + shelf + ", n -1", hand.row(shelf, 0, -1), BAD);
        }
        check.due("a ROW", hand.row(0, 3, 2), 1);
        for (int sort : new int[] {-1, 5, Integer.MIN_VALUE, Integer.MAX_VALUE}) {
            check.due("sort " + sort, hand.row(0, sort, 1), BAD);
            check.due("sort " + sort + ", n -1", hand.row(0, sort, -1), BAD);
        }
        check.due("n 61", hand.row(0, 0, 61), BAD);
        check.due("the most n", hand.row(0, 0, Integer.MAX_VALUE), BAD);
        check.due("longs still", hand.put(0, 1, 1L << 40), 1);
        check.due("longs still", hand.element(0, 1), 1L << 40);
    }

    private static void sizeBelowZero() {
        check.says("-14 a size below 0");
        RiverHand hand = new RiverHand();
        hand.row(0, 3, 2);
        for (int sort = 0; sort <= 4; sort++) {
            check.due("n -1", hand.row(0, sort, -1), -14);
            check.due("the least n", hand.row(0, sort, Integer.MIN_VALUE), -14);
        }
        check.due("a ROW still", hand.put(0, 1, 5), 1);
        check.due("n -1 on a bare SHELF", hand.row(1, 0, -1), -14);
        check.due("nothing still", hand.put(1, 0, 5), -11);
    }

    private static void put() {
        check.says("Element i of a ROW becomes v: 1. BAD, -11, -12, -13.");
        RiverHand hand = new RiverHand();
        hand.row(0, 0, 3);
        hand.body(STEP);
        hand.keep(1, 0);
        for (int shelf : NO_SHELVES) {
            check.due("shelf " + shelf, hand.put(shelf, 0, 1), BAD);
        }
        int[] noPlaces = {-1, 3, 60, Integer.MIN_VALUE, Integer.MAX_VALUE};
        for (int i : noPlaces) {
            check.due("place " + i, hand.put(0, i, 1), -13);
            check.due("place " + i + " of a STEP", hand.put(1, i, 1), -12);
            check.due("place " + i + " of nothing", hand.put(2, i, 1), -11);
        }
        check.due("of a STEP", hand.put(1, 0, 1), -12);
        check.due("of nothing", hand.put(2, 0, 1), -11);
        check.due("the first", hand.put(0, 0, 5), 1);
        check.due("the last", hand.put(0, 2, 6), 1);
        check.due("the first", hand.element(0, 0), 5);
        check.due("between", hand.element(0, 1), 0);
        check.due("the last", hand.element(0, 2), 6);
    }

    private static void element() {
        check.says("Element i of a ROW; Long.MIN_VALUE: BAD, -11 to -13.");
        RiverHand hand = new RiverHand();
        hand.row(0, 3, 3);
        hand.body(STEP);
        hand.keep(1, 0);
        for (int shelf : NO_SHELVES) {
            check.due("shelf " + shelf, hand.element(shelf, 0), NONE);
        }
        for (int i : new int[] {-1, 3, 60, Integer.MIN_VALUE, Integer.MAX_VALUE}) {
            check.due("place " + i, hand.element(0, i), NONE);
        }
        check.due("of a STEP", hand.element(1, 0), NONE);
        check.due("of nothing", hand.element(2, 0), NONE);
        hand.put(0, 2, -13);
        check.due("the last", hand.element(0, 2), -13);
    }

    private static void holds(RiverHand hand, int shelf, int... due) {
        for (int i = 0; i < due.length; i++) {
            check.due("element(" + shelf + ", " + i + ")", hand.element(shelf, i), due[i]);
        }
        check.due("its end", hand.element(shelf, due.length), NONE);
    }

    private static void shift() {
        check.says("n elements of a ROW from i on come to another one (or the same) from j on");
        RiverHand hand = new RiverHand();
        Check.bytes(hand, 0, 1, 2, 3, 4);
        Check.bytes(hand, 1, 5, 6);
        check.due("to another", hand.shift(0, 2, 1, 0, 2), 2);
        holds(hand, 1, 3, 4);
        holds(hand, 0, 1, 2, 3, 4);
        check.due("all to the end of a longer one", hand.shift(1, 0, 0, 2, 2), 2);
        check.due("one", hand.shift(0, 0, 1, 1, 1), 1);
        holds(hand, 1, 3, 1);
        check.due("none", hand.shift(0, 0, 1, 0, 0), 0);
        check.due("none at both ends", hand.shift(0, 4, 1, 2, 0), 0);
        holds(hand, 1, 3, 1);
        for (int sort = 0; sort <= 4; sort++) {
            hand.row(2, sort, 60);
            hand.row(3, sort, 60);
            hand.put(2, 59, 1);
            check.due("60 of sort " + sort, hand.shift(2, 0, 3, 0, 60), 60);
            check.due("the last", hand.element(3, 59), 1);
        }
        hand.row(4, 0, 0);
        check.due("none of none", hand.shift(4, 0, 4, 0, 0), 0);
    }

    private static void asTheyAllWereBefore() {
        check.says("as they all were before: n.");
        RiverHand hand = new RiverHand();
        Check.bytes(hand, 0, 1, 2, 3, 4, 5);
        check.due("one on", hand.shift(0, 0, 0, 1, 4), 4);
        holds(hand, 0, 1, 1, 2, 3, 4);
        Check.bytes(hand, 0, 1, 2, 3, 4, 5);
        check.due("one back", hand.shift(0, 1, 0, 0, 4), 4);
        holds(hand, 0, 2, 3, 4, 5, 5);
        Check.bytes(hand, 0, 1, 2, 3, 4, 5);
        check.due("two on", hand.shift(0, 0, 0, 2, 3), 3);
        holds(hand, 0, 1, 2, 1, 2, 3);
        check.due("to where they are", hand.shift(0, 0, 0, 0, 5), 5);
        holds(hand, 0, 1, 2, 1, 2, 3);
    }

    private static void shiftNothing() {
        check.says("BAD, -11 (either), -12 (no ROWS, or of unlike sorts), -13.");
        RiverHand hand = new RiverHand();
        Check.bytes(hand, 0, 1, 2, 3);
        hand.body(STEP);
        hand.keep(1, 0);
        for (int shelf : NO_SHELVES) {
            check.due("from shelf " + shelf, hand.shift(shelf, 0, 0, 0, 1), BAD);
            check.due("to shelf " + shelf, hand.shift(0, 0, shelf, 0, 1), BAD);
            check.due("from shelf " + shelf + " to nothing", hand.shift(shelf, 0, 2, 0, 1), BAD);
            check.due("from nothing to shelf " + shelf, hand.shift(2, 0, shelf, 0, 1), BAD);
        }
        check.due("from nothing", hand.shift(2, 0, 0, 0, 1), -11);
        check.due("to nothing", hand.shift(0, 0, 2, 0, 1), -11);
        check.due("from nothing to nothing", hand.shift(2, 0, 2, 0, 0), -11);
        check.due("from nothing to a STEP", hand.shift(2, 0, 1, 0, 1), -11);
        check.due("from a STEP to nothing", hand.shift(1, 0, 2, 0, 1), -11);
        check.due("to nothing, no such place", hand.shift(0, -1, 2, 9, -1), -11);
    }

    private static void shiftOtherKinds() {
        check.says("-12 (no ROWS, or of unlike sorts)");
        RiverHand hand = new RiverHand();
        hand.body(STEP);
        hand.keep(5, 0);
        for (int sort = 0; sort <= 4; sort++) {
            hand.row(sort, sort, 2);
        }
        for (int sort = 0; sort <= 4; sort++) {
            check.due("from a STEP", hand.shift(5, 0, sort, 0, 1), -12);
            check.due("to a STEP", hand.shift(sort, 0, 5, 0, 1), -12);
            for (int other = 0; other <= 4; other++) {
                check.due(sort + " to " + other, hand.shift(sort, 0, other, 0, 1), sort == other ? 1 : -12);
                check.due(sort + " to " + other + ", no such place", hand.shift(sort, 3, other, 0, 1),
                        sort == other ? -13 : -12);
            }
        }
        check.due("from a STEP to itself", hand.shift(5, 0, 5, 0, 0), -12);
        check.due("none of unlike sorts", hand.shift(0, 0, 1, 0, 0), -12);
    }

    private static void shiftPlaces() {
        check.says("-13 a place that is not there");
        RiverHand hand = new RiverHand();
        Check.bytes(hand, 0, 1, 2, 3, 4, 5);
        Check.bytes(hand, 1, 6, 7, 8);
        int most = Integer.MAX_VALUE;
        int least = Integer.MIN_VALUE;
        int[][] none = {{-1, 0, 1}, {0, -1, 1}, {-1, 0, 0}, {0, -1, 0}, {5, 0, 1}, {0, 3, 1}, {3, 0, 3}, {0, 1, 3}, {0, 0, 4},
            {6, 0, 0}, {0, 4, 0}, {0, 0, -1}, {1, 1, -1}, {most, 0, 1}, {0, most, 1}, {most, most, most}, {1, 1, most},
            {least, 0, 1}, {0, least, 1}, {0, 0, least}, {most, 0, 0}};
        for (int[] way : none) {
            check.due("from " + way[0] + " to " + way[1] + ", " + way[2], hand.shift(0, way[0], 1, way[1], way[2]), -13);
        }
        holds(hand, 0, 1, 2, 3, 4, 5);
        holds(hand, 1, 6, 7, 8);
        check.due("to the ends of both", hand.shift(0, 2, 1, 0, 3), 3);
        holds(hand, 1, 3, 4, 5);
    }

    private static void takenOrUnder() {
        check.says("What a SHELF holds, taken for a STEP of KIND k (0 .. 7), or under it: its KIND.");
        RiverHand hand = kindsByNumber();
        String[] under = {"0", "01", "02", "023", "014", "0235", "06", "0147"};
        for (int kind = 0; kind <= 7; kind++) {
            hand.keep(0, kind);
            for (int k = 0; k <= 7; k++) {
                boolean is = under[kind].indexOf('0' + k) >= 0;
                check.due(kind + " for " + k, hand.taken(0, k), is ? kind : -12);
            }
        }
    }

    private static void taken() {
        check.says("or under it: its KIND. BAD, -11, -12.");
        RiverHand hand = kindsByNumber();
        hand.keep(0, 3);
        hand.row(1, 2, 3);
        for (int shelf : NO_SHELVES) {
            check.due("shelf " + shelf, hand.taken(shelf, 0), BAD);
        }
        for (int k : new int[] {-1, 8, Integer.MIN_VALUE, Integer.MAX_VALUE}) {
            check.due("a STEP for " + k, hand.taken(0, k), BAD);
            check.due("a ROW for " + k, hand.taken(1, k), BAD);
            check.due("nothing for " + k, hand.taken(2, k), BAD);
        }
        for (int k = 0; k <= 7; k++) {
            check.due("a ROW for " + k, hand.taken(1, k), -12);
            check.due("nothing for " + k, hand.taken(2, k), -11);
        }
        check.due("it is there still", hand.taken(0, 3), 3);
    }

    private static void countReaches() {
        check.says("How many: 0 REACHES");
        RiverHand hand = new RiverHand();
        for (int i = 0; i <= 8; i++) {
            check.due(i + " REACHES", hand.count(0), i);
            hand.reach(60);
        }
        check.due("no ninth", hand.count(0), 8);
    }

    private static void countOver() {
        check.says("1 OVER now");
        RiverHand hand = Check.river(30, 31, 29, 30, 30, 30, 30, 30);
        check.due("seven", hand.count(1), 7);
        hand.mend(1, 0, 31);
        check.due("eight", hand.count(1), 8);
        check.due("none of none", new RiverHand().count(1), 0);
    }

    private static void countOnTape() {
        check.says("2 bytes on THE TAPE");
        RiverHand hand = new RiverHand();
        for (int i = 0; i < 130; i++) {
            check.due("bytes", hand.count(2), Math.min(i, 120));
            hand.feed('1');
        }
        hand.law();
        check.due("none", hand.count(2), 0);
    }

    private static void countChanges() {
        check.says("3 changes that may be UNDONE");
        RiverHand hand = new RiverHand();
        for (int i = 0; i < 45; i++) {
            check.due("made", hand.count(3), Math.min(i, 40));
            hand.mend(0, 5, i % 2);
        }
        hand.undo();
        check.due("one UNDONE", hand.count(3), 39);
        hand.redo();
        check.due("DONE AGAIN", hand.count(3), 40);
    }

    private static void countBodies() {
        check.says("4 BODIES");
        RiverHand hand = new RiverHand();
        for (int i = 0; i < 55; i++) {
            check.due("bodies", hand.count(4), Math.min(i, 50));
            hand.body(i % 8);
        }
    }

    private static void countThatRan() {
        check.says("5 bodies that ran in the latest act()");
        RiverHand hand = kindsByNumber();
        check.due("none yet", hand.count(5), 0);
        hand.act(ARCH, TELLS, 1);
        check.due("the most", hand.count(5), 14);
        hand.act(STEP, FLOWS, 1);
        check.due("one", hand.count(5), 1);
        hand.act(STEP, 4, 1);
        check.due("no such ACT", hand.count(5), 0);
    }

    private static void count() {
        check.says("5 bodies that ran in the latest act(). BAD.");
        RiverHand hand = new RiverHand();
        for (int what : new int[] {-1, 6, Integer.MIN_VALUE, Integer.MAX_VALUE}) {
            check.due("what " + what, hand.count(what), BAD);
        }
    }
}
