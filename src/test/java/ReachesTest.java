/** Promises 1 to 5 and 8: a new object, REACHES, their numbers, what goes without a text. */
public final class ReachesTest {
    private static final Check check = new Check();

    public static void main(String[] args) {
        newObject();
        reach();
        reachesFromRow();
        reachesThatEnd();
        reachesFromBelow();
        reachesRefused();
        mendAndOf();
        mendRefused();
        goes();
        check.finish();
    }

    private static void newObject() {
        RiverHand hand = new RiverHand();
        for (int what = 0; what <= 5; what++) {
            check.due("new count(" + what + ")", hand.count(what), 0);
        }
        for (int what = 0; what <= 4; what++) {
            check.due("new led(" + what + ")", hand.led(what), 0);
        }
        check.due("new of(0, 5)", hand.of(0, 5), 3);
        check.due("new of(0, 6)", hand.of(0, 6), 0);
        for (int day = 0; day <= 6; day++) {
            check.due("new of(" + day + ", 4)", hand.of(day, 4), 0);
        }
        check.due("new back()", hand.back(), RiverHand.STATE);
        check.due("new undo()", hand.undo(), RiverHand.STATE);
        check.due("new redo()", hand.redo(), RiverHand.STATE);
        check.due("new trace(0)", hand.trace(0), RiverHand.BAD);
    }

    private static void reach() {
        RiverHand hand = new RiverHand();
        check.due("reach(0)", hand.reach(0), RiverHand.BAD);
        check.due("reach(100)", hand.reach(100), RiverHand.BAD);
        check.due("reach(-1)", hand.reach(-1), RiverHand.BAD);
        check.due("count(0)", hand.count(0), 0);
        check.due("reach(1)", hand.reach(1), 0);
        check.due("reach(99)", hand.reach(99), 1);
        check.due("LEVEL", hand.of(1, 0), 30);
        check.due("BANK", hand.of(1, 1), 99);
        check.due("BRIDGE", hand.of(1, 2), 0);
        check.due("GIFTS", hand.of(1, 3), 0);
        check.due("OVER now", hand.count(1), 1);
        for (int i = 2; i < 8; i++) {
            check.due("reach " + i, hand.reach(60), i);
        }
        check.due("a ninth", hand.reach(60), RiverHand.FULL);
        check.due("a ninth that is BAD", hand.reach(0), RiverHand.BAD);
        check.due("count(0)", hand.count(0), 8);
    }

    private static void reachesFromRow() {
        RiverHand hand = new RiverHand();
        Check.bytes(hand, 3, 7, 0, 1, 0, 99, 99, 9, 50, 60, 4);
        check.due("two from 1 on", hand.reaches(3, 1, 2), 2);
        check.due("LEVEL 0", hand.of(0, 0), 0);
        check.due("BANK 0", hand.of(0, 1), 1);
        check.due("GIFTS 0", hand.of(0, 3), 0);
        check.due("BRIDGE 0", hand.of(0, 2), 0);
        check.due("LEVEL 1", hand.of(1, 0), 99);
        check.due("BANK 1", hand.of(1, 1), 99);
        check.due("GIFTS 1", hand.of(1, 3), 9);
        check.due("one of eight", hand.reaches(3, 7, 8), 1);
        check.due("LEVEL 2", hand.of(2, 0), 50);
        check.due("no CHANGES by it", hand.count(3), 0);
    }

    private static void reachesThatEnd() {
        RiverHand hand = new RiverHand();
        check.due("a missing row", hand.reaches(0, 0, 8), 0);
        check.due("a missing row from below 0", hand.reaches(0, -1, 1), 0);
        Check.bytes(hand, 0, 10, 20, 3, 40, 50);
        check.due("within a three", hand.reaches(0, 0, 2), 1);
        check.due("behind the end", hand.reaches(0, 5, 1), 0);
        check.due("far behind the end", hand.reaches(0, Integer.MAX_VALUE, 8), 0);
        Check.bytes(hand, 0);
        check.due("an empty row", hand.reaches(0, 0, 1), 0);
        int[][] notSo = {{100, 50, 0}, {-1, 50, 0}, {50, 0, 0}, {50, 100, 0}, {50, 50, 10}, {50, 50, -1}};
        for (int[] three : notSo) {
            Check.bytes(hand, 0, 1, 2, 3, three[0], three[1], three[2], 4, 5, 6);
            check.due("one that is not so", hand.reaches(0, 3, 2), 0);
        }
        check.due("only one came", hand.count(0), 1);
        check.due("one ahead of what is not so", hand.reaches(0, 0, 3), 1);
        Check.bytes(hand, 1, 1, 2, 3, 1, 2, 3, 1, 2, 3, 1, 2, 3, 1, 2, 3, 1, 2, 3, 1, 2, 3, 1, 2, 3);
        check.due("until FULL", hand.reaches(1, 0, 8), 6);
        check.due("eight now", hand.count(0), 8);
        check.due("none more", hand.reaches(1, 0, 8), 0);
    }

    private static void reachesFromBelow() {
        RiverHand hand = new RiverHand();
        // Were a place below 0 taken for a 0, a three from -1 on would be so.
        Check.bytes(hand, 0, 50, 1, 9, 10, 50, 1);
        int[] below = {-1, -2, -3, -4, -6, Integer.MIN_VALUE, Integer.MIN_VALUE + 1};
        for (int place : below) {
            check.due("from " + place, hand.reaches(0, place, 1), 0);
            check.due("eight from " + place, hand.reaches(0, place, 8), 0);
        }
        check.due("none came from below 0", hand.count(0), 0);
        check.due("both from 0", hand.reaches(0, 0, 8), 2);
    }

    private static void reachesRefused() {
        RiverHand hand = new RiverHand();
        Check.bytes(hand, 0, 10, 20, 3);
        hand.row(1, 1, 3);
        hand.body(0);
        hand.keep(2, 0);
        check.due("shelf -1", hand.reaches(-1, 0, 1), RiverHand.BAD);
        check.due("shelf 6", hand.reaches(6, 0, 1), RiverHand.BAD);
        check.due("n 0", hand.reaches(0, 0, 0), RiverHand.BAD);
        check.due("n 9", hand.reaches(0, 0, 9), RiverHand.BAD);
        check.due("n 9 from below 0", hand.reaches(0, -1, 9), RiverHand.BAD);
        check.due("n 9 of shorts", hand.reaches(1, 0, 9), RiverHand.BAD);
        check.due("shorts", hand.reaches(1, 0, 1), -12);
        check.due("a STEP", hand.reaches(2, 0, 1), -12);
        check.due("shorts from below 0", hand.reaches(1, -1, 1), -12);
        check.due("a STEP from below 0", hand.reaches(2, -1, 1), -12);
        check.due("none came", hand.count(0), 0);
    }

    private static void mendAndOf() {
        RiverHand hand = Check.river(60, 60);
        int[] first = {30, 60, 0, 0, 0, 3, 0};
        int[] least = {0, 1, 0, 0, 0, 0, 0};
        int[] most = {99, 99, 1, 9, 9, 9, 6};
        for (int what = 0; what <= 6; what++) {
            check.due("of " + what, hand.of(0, what), first[what]);
            check.due("mend " + what + " to the most", hand.mend(0, what, most[what]), first[what]);
            check.due("mend " + what + " to the least", hand.mend(0, what, least[what]), most[what]);
            check.due("of " + what + " then", hand.of(0, what), least[what]);
            check.due("above " + what, hand.mend(0, what, most[what] + 1), RiverHand.BAD);
            check.due("below " + what, hand.mend(0, what, least[what] - 1), RiverHand.BAD);
            check.due("of " + what + " still", hand.of(0, what), least[what]);
        }
        check.due("the other REACH", hand.of(1, 0), 30);
        check.due("RAIN of 6", hand.mend(6, 4, 5), 0);
        check.due("RAIN of 6 then", hand.of(6, 4), 5);
        check.due("RAIN of 0", hand.of(0, 4), 0);
    }

    private static void mendRefused() {
        RiverHand hand = Check.river(60);
        for (int what = 0; what <= 6; what++) {
            int beyond = what == 4 ? 7 : 1;
            check.due("mend beyond, " + what, hand.mend(beyond, what, 1), RiverHand.BAD);
            check.due("of beyond, " + what, hand.of(beyond, what), RiverHand.BAD);
            check.due("mend -1, " + what, hand.mend(-1, what, 1), RiverHand.BAD);
            check.due("of -1, " + what, hand.of(-1, what), RiverHand.BAD);
        }
        check.due("what 7", hand.mend(0, 7, 0), RiverHand.BAD);
        check.due("what -1", hand.mend(0, -1, 0), RiverHand.BAD);
        check.due("of what 7", hand.of(0, 7), RiverHand.BAD);
        check.due("of what -1", hand.of(0, -1), RiverHand.BAD);
        check.due("no CHANGES", hand.count(3), 0);
    }

    private static void goes() {
        RiverHand hand = Check.river(60, 60);
        check.due("30 by 5", hand.goes(0), 6);
        hand.mend(0, 0, 99);
        check.due("99 by 5", hand.goes(0), 19);
        hand.mend(0, 2, 1);
        check.due("less 2 for the BRIDGE", hand.goes(0), 17);
        hand.mend(0, 3, 8);
        check.due("less 8 by 3", hand.goes(0), 15);
        hand.mend(0, 0, 19);
        check.due("3 - 2 - 2 is held at 0", hand.goes(0), 0);
        check.due("goes(2)", hand.goes(2), RiverHand.BAD);
        check.due("goes(-1)", hand.goes(-1), RiverHand.BAD);
    }
}
