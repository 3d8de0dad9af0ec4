/** Promises 31 to 40: BODIES, their acts, SHELVES, counts. */
public final class ActsAndShelvesTest {
    private static final Check check = new Check();

    public static void main(String[] args) {
        body();
        acts();
        traces();
        noSuchAct();
        keep();
        row();
        putAndElement();
        putRefused();
        shift();
        shiftRefused();
        taken();
        count();
        check.finish();
    }

    private static void body() {
        RiverHand hand = new RiverHand();
        check.due("kind 8", hand.body(8), RiverHand.BAD);
        check.due("kind -1", hand.body(-1), RiverHand.BAD);
        for (int i = 0; i < 50; i++) {
            check.due("body " + i, hand.body(i % 8), i);
        }
        check.due("FULL", hand.body(0), RiverHand.FULL);
        check.due("kind 8 when FULL", hand.body(8), RiverHand.BAD);
        check.due("count(4)", hand.count(4), 50);
    }

    /** Body k has KIND k, so n is k too; worked out by hand with x 10. */
    private static void acts() {
        RiverHand hand = new RiverHand();
        for (int kind = 0; kind < 8; kind++) {
            hand.body(kind);
        }
        int[][] due = {
            {10, 20, 10, 19},
            // QUAY 1: flows 11 + 3; says 28; floods 11; tells 28 - 0
            {14, 28, 11, 28},
            // MAYOR 2: flows 12; says -24; floods 8; tells -24 - 3
            {12, -24, 8, -27},
            // SALMON 3: flows 13; says -(14 * 2); floods 9 * 3; tells -28 - 2 * 3
            {13, -28, 27, -34},
            // BANNS 4: flows 14 + 3; says 34; floods 14 - 9; tells 34 - (5 - 9)
            {17, 34, 5, 38},
            // CHILD 5: flows 15; says -(16 * 2); floods 15 * 3; tells (-32 - 4 * 3) ^ 5
            {15, -32, 45, -44 ^ 5},
            // MUD 6: flows 16 * 2; says 64; floods 12; tells 64 - 7
            {32, 64, 12, 57},
            // ARCH 7: flows 17 + 3; says 40 + ((2 ^ 7) - 12); floods 13 - 12; tells 33 - (6 - 12) - 1
            {20, 33, 1, 38},
        };
        for (int kind = 0; kind < 8; kind++) {
            for (int act = 0; act < 4; act++) {
                check.due("act(" + kind + ", " + act + ", 10)", hand.act(kind, act, 10), due[kind][act]);
            }
        }
        check.due("it wraps", hand.act(1, 0, Integer.MAX_VALUE), Integer.MIN_VALUE + 3);
        hand.body(0);
        check.due("n is the number, not the KIND", hand.act(8, 0, 10), 18);
        check.due("n in floods", hand.act(8, 2, 10), 10 ^ 8);
    }

    private static void traces() {
        RiverHand hand = new RiverHand();
        for (int kind = 0; kind < 8; kind++) {
            hand.body(kind);
        }
        int[][] tells = {
            {2, 10, 1, 11},
            {2, 10, 20, 1, 11},
            {2, 30, 10, 1, 11},
            {2, 41, 30, 10, 1, 40, 11},
            {2, 10, 20, 1, 50, 11, 20, 1},
            {60, 2, 41, 30, 10, 1, 40, 11},
            {2, 10, 70, 1, 11},
            {81, 2, 80, 10, 20, 1, 50, 11, 20, 1, 50, 11, 20, 1},
        };
        for (int kind = 0; kind < 8; kind++) {
            hand.act(kind, 3, 5);
            check.due("how many ran of " + kind, hand.count(5), tells[kind].length);
            for (int i = 0; i < tells[kind].length; i++) {
                check.due("trace(" + i + ") of " + kind, hand.trace(i), tells[kind][i]);
            }
            check.due("behind the end", hand.trace(tells[kind].length), RiverHand.BAD);
        }
        check.due("trace(-1)", hand.trace(-1), RiverHand.BAD);
        check.due("trace(24)", hand.trace(24), RiverHand.BAD);
    }

    private static void noSuchAct() {
        RiverHand hand = new RiverHand();
        hand.body(0);
        int[][] wrong = {{1, 0}, {-1, 0}, {0, 4}, {0, -1}};
        for (int[] bodyAndAct : wrong) {
            hand.act(0, 0, 5);
            check.due("ran", hand.count(5), 1);
            check.due("no such", hand.act(bodyAndAct[0], bodyAndAct[1], 5), 0);
            check.due("no TRACE then", hand.count(5), 0);
            check.due("no TRACE then", hand.trace(0), RiverHand.BAD);
        }
    }

    private static void keep() {
        RiverHand hand = new RiverHand();
        hand.body(3);
        check.due("a STEP", hand.keep(0, 0), 1);
        check.due("taken", hand.taken(0, 0), 3);
        check.due("nothing", hand.keep(0, -1), 1);
        check.due("taken", hand.taken(0, 0), -11);
        check.due("shelf 6", hand.keep(6, 0), RiverHand.BAD);
        check.due("shelf -1", hand.keep(-1, -1), RiverHand.BAD);
        check.due("body 1", hand.keep(0, 1), RiverHand.BAD);
        check.due("body -2", hand.keep(0, -2), RiverHand.BAD);
        hand.row(5, 0, 3);
        check.due("over a ROW", hand.keep(5, 0), 1);
        check.due("no ROW then", hand.put(5, 0, 1), -12);
        hand.row(5, 0, 3);
        check.due("BAD changes nothing", hand.keep(5, 1), RiverHand.BAD);
        check.due("a ROW still", hand.put(5, 0, 1), 1);
    }

    private static void row() {
        RiverHand hand = new RiverHand();
        for (int sort = 0; sort <= 4; sort++) {
            check.due("sort " + sort, hand.row(sort, sort, 60), 1);
            check.due("0 at first", hand.element(sort, 59), 0);
            check.due("60 elements", hand.element(sort, 60), Long.MIN_VALUE);
        }
        hand.put(0, 0, 7);
        check.due("none", hand.row(0, 1, 0), 1);
        check.due("none", hand.element(0, 0), Long.MIN_VALUE);
        check.due("anew", hand.row(0, 0, 5), 1);
        check.due("0 at first again", hand.element(0, 0), 0);
        hand.put(0, 0, 9);
        check.due("shelf 6", hand.row(6, 0, 1), RiverHand.BAD);
        check.due("shelf -1", hand.row(-1, 0, -1), RiverHand.BAD);
        check.due("sort 5", hand.row(0, 5, -1), RiverHand.BAD);
        check.due("sort -1", hand.row(0, -1, 1), RiverHand.BAD);
        check.due("61", hand.row(0, 0, 61), RiverHand.BAD);
        check.due("-1", hand.row(0, 0, -1), -14);
        check.due("the least", hand.row(0, 0, Integer.MIN_VALUE), -14);
        check.due("as it was", hand.element(0, 0), 9);
    }

    private static void putAndElement() {
        RiverHand hand = new RiverHand();
        long v = 0x1122334455667788L;
        long[] due = {(byte) v, (short) v, (int) v, v, 1};
        long[] highs = {-1, -1, -1, 0xFFFFFFFFL, 1};
        for (int sort = 0; sort <= 4; sort++) {
            hand.row(1, sort, 2);
            check.due("put", hand.put(1, 1, v), 1);
            check.due("sort " + sort, hand.element(1, 1), due[sort]);
            check.due("the other", hand.element(1, 0), 0);
            hand.put(1, 1, 0xFFFFFFFFL);
            check.due("high bits, sort " + sort, hand.element(1, 1), highs[sort]);
            hand.put(1, 1, 1L << 40);
            check.due("bit 40, sort " + sort, hand.element(1, 1), sort == 3 ? 1L << 40 : sort == 4 ? 1 : 0);
        }
        hand.row(1, 4, 1);
        for (int i = 2; i >= -1; i--) {
            hand.put(1, 0, i);
            check.due(i + " as a boolean", hand.element(1, 0), i == 0 ? 0 : 1);
        }
        hand.row(1, 0, 1);
        hand.put(1, 0, 200);
        check.due("200 as a byte", hand.element(1, 0), -56);
        hand.row(1, 1, 1);
        hand.put(1, 0, 40000);
        check.due("40000 as a short", hand.element(1, 0), -25536);
    }

    private static void putRefused() {
        RiverHand hand = new RiverHand();
        hand.body(0);
        hand.keep(0, 0);
        hand.row(1, 0, 3);
        check.due("shelf 6", hand.put(6, 0, 1), RiverHand.BAD);
        check.due("shelf -1", hand.put(-1, 0, 1), RiverHand.BAD);
        check.due("nothing", hand.put(2, 0, 1), -11);
        check.due("nothing, place -1", hand.put(2, -1, 1), -11);
        check.due("a STEP", hand.put(0, 0, 1), -12);
        check.due("place 3", hand.put(1, 3, 1), -13);
        check.due("place -1", hand.put(1, -1, 1), -13);
        check.due("element of shelf 6", hand.element(6, 0), Long.MIN_VALUE);
        check.due("element of shelf -1", hand.element(-1, 0), Long.MIN_VALUE);
        check.due("element of nothing", hand.element(2, 0), Long.MIN_VALUE);
        check.due("element of a STEP", hand.element(0, 0), Long.MIN_VALUE);
        check.due("element 3", hand.element(1, 3), Long.MIN_VALUE);
        check.due("element -1", hand.element(1, -1), Long.MIN_VALUE);
    }

    private static void holds(RiverHand hand, int shelf, int... due) {
        for (int i = 0; i < due.length; i++) {
            check.due("element(" + shelf + ", " + i + ")", hand.element(shelf, i), due[i]);
        }
        check.due("its end", hand.element(shelf, due.length), Long.MIN_VALUE);
    }

    private static void shift() {
        RiverHand hand = new RiverHand();
        Check.bytes(hand, 0, 1, 2, 3, 4, 5);
        Check.bytes(hand, 1, 6, 7, 8);
        check.due("two", hand.shift(0, 3, 1, 0, 2), 2);
        holds(hand, 1, 4, 5, 8);
        holds(hand, 0, 1, 2, 3, 4, 5);
        check.due("within, to the right", hand.shift(0, 0, 0, 1, 4), 4);
        holds(hand, 0, 1, 1, 2, 3, 4);
        check.due("within, to the left", hand.shift(0, 2, 0, 0, 3), 3);
        holds(hand, 0, 2, 3, 4, 3, 4);
        check.due("none at the ends", hand.shift(0, 5, 1, 3, 0), 0);
        check.due("all", hand.shift(1, 0, 0, 2, 3), 3);
        holds(hand, 0, 2, 3, 4, 5, 8);
    }

    private static void shiftRefused() {
        RiverHand hand = new RiverHand();
        Check.bytes(hand, 0, 1, 2, 3, 4, 5);
        Check.bytes(hand, 1, 6, 7, 8);
        hand.row(2, 1, 5);
        hand.body(0);
        hand.keep(3, 0);
        check.due("shelf 6", hand.shift(6, 0, 0, 0, 0), RiverHand.BAD);
        check.due("other -1", hand.shift(0, 0, -1, 0, 0), RiverHand.BAD);
        check.due("from nothing", hand.shift(4, 0, 0, 0, 0), -11);
        check.due("to nothing", hand.shift(0, 0, 4, 0, 0), -11);
        check.due("from a STEP to nothing", hand.shift(3, 0, 4, 0, 0), -11);
        check.due("from a STEP", hand.shift(3, 0, 0, 0, 0), -12);
        check.due("to a STEP", hand.shift(0, 0, 3, 0, 0), -12);
        check.due("unlike sorts", hand.shift(0, 0, 2, 0, 1), -12);
        check.due("unlike sorts, no place", hand.shift(0, 9, 2, 0, 1), -12);
        int[][] noPlace = {{-1, 0, 1}, {0, -1, 1}, {0, 0, -1}, {5, 0, 1}, {0, 3, 1}, {0, 0, 4}, {6, 0, 0}, {0, 4, 0},
            {Integer.MAX_VALUE, 0, 2}, {0, Integer.MAX_VALUE, 2}, {2, 2, Integer.MAX_VALUE}, {1, 1, Integer.MIN_VALUE}};
        for (int[] way : noPlace) {
            check.due("no such place", hand.shift(0, way[0], 1, way[1], way[2]), -13);
        }
        holds(hand, 0, 1, 2, 3, 4, 5);
        holds(hand, 1, 6, 7, 8);
    }

    private static void taken() {
        RiverHand hand = new RiverHand();
        int[] above = {-1, 0, 0, 2, 1, 3, 0, 4};
        for (int kind = 0; kind < 8; kind++) {
            hand.body(kind);
            hand.keep(0, kind);
            for (int k = 0; k < 8; k++) {
                boolean under = false;
                for (int at = kind; at != -1; at = above[at]) {
                    under |= at == k;
                }
                check.due(kind + " taken for " + k, hand.taken(0, k), under ? kind : -12);
            }
        }
        hand.row(1, 0, 2);
        check.due("a ROW", hand.taken(1, 0), -12);
        check.due("nothing", hand.taken(2, 0), -11);
        check.due("kind 8 of nothing", hand.taken(2, 8), RiverHand.BAD);
        check.due("kind -1", hand.taken(0, -1), RiverHand.BAD);
        check.due("shelf 6", hand.taken(6, 0), RiverHand.BAD);
        check.due("shelf -1", hand.taken(-1, 0), RiverHand.BAD);
    }

    private static void count() {
        RiverHand hand = Check.river(30, 60, 20);
        hand.feed('l');
        hand.feed('?');
        hand.mend(0, 5, 1);
        hand.body(1);
        hand.body(1);
        hand.act(0, 0, 1);
        int[] due = {3, 2, 2, 1, 2, 2};
        for (int what = 0; what <= 5; what++) {
            check.due("count(" + what + ")", hand.count(what), due[what]);
        }
        check.due("count(6)", hand.count(6), RiverHand.BAD);
        check.due("count(-1)", hand.count(-1), RiverHand.BAD);
    }
}
