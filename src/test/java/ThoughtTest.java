/** Promises 9 to 15: days in thought. */
public final class ThoughtTest {
    private static final Check check = new Check();

    public static void main(String[] args) {
        oneDay();
        later();
        river();
        over();
        signs();
        still();
        throwIn();
        throwInRefused();
        bridges();
        bridgesOfLikeOnes();
        nothingChanges();
        check.finish();
    }

    /** 50, 20, 30 with RAIN 2: goes 10, 4, 6; LEVELS 50 + 2 + 3 - 10, 20 + 2 + 10 - 4, 30 + 2 + 4 - 6. */
    private static void oneDay() {
        RiverHand hand = Check.river(60, 60, 60);
        hand.mend(0, 0, 50);
        hand.mend(1, 0, 20);
        hand.mend(0, 4, 2);
        check.due("LEVEL 0", hand.later(1, 0, 0), 45);
        check.due("LEVEL 1", hand.later(1, 1, 0), 28);
        check.due("LEVEL 2", hand.later(1, 2, 0), 30);
        check.due("SIGN 0", hand.later(1, 0, 1), 2);
        check.due("SIGN 1", hand.later(1, 1, 1), 1);
        check.due("SIGN 2", hand.later(1, 2, 1), 0);
        check.due("LEVEL of all", hand.river(1, 1), 103);
    }

    private static void later() {
        RiverHand hand = Check.river(60, 60);
        Check.law(hand, "0");
        hand.mend(6, 4, 9);
        check.due("0 days", hand.later(0, 0, 0), 30);
        check.due("6 days", hand.later(6, 0, 0), 48);
        check.due("7 days", hand.later(7, 0, 0), 60);
        check.due("no more than 99", hand.later(60, 0, 0), 99);
        check.due("the other, 6 days", hand.later(6, 1, 0), 30);
        check.due("the other, 7 days", hand.later(7, 1, 0), 39);
        check.due("the other, 60 days", hand.later(60, 1, 0), 99);
        check.due("SIGN on the 6th", hand.later(6, 1, 1), 0);
        check.due("SIGN on the 7th", hand.later(7, 1, 1), 1);
        check.due("SIGN on the 60th", hand.later(60, 0, 1), 0);
        check.due("SIGN on the 0th", hand.later(0, 0, 1), RiverHand.BAD);
        check.due("61 days", hand.later(61, 0, 0), RiverHand.BAD);
        check.due("SIGN on the 61st", hand.later(61, 0, 1), RiverHand.BAD);
        check.due("-1 days", hand.later(-1, 0, 0), RiverHand.BAD);
        check.due("reach 2", hand.later(1, 2, 0), RiverHand.BAD);
        check.due("reach -1", hand.later(1, -1, 0), RiverHand.BAD);
        check.due("what 2", hand.later(2, 0, 2), RiverHand.BAD);
        check.due("what -1", hand.later(2, 0, -1), RiverHand.BAD);
        Check.law(hand, "20");
        hand.mend(0, 5, 0);
        check.due("to 0", hand.later(3, 0, 0), 0);
        hand.mend(0, 6, 6);
        check.due("the week goes on behind 6", hand.later(1, 0, 0), 19);
    }

    private static void river() {
        RiverHand hand = Check.river(33, 30, 60);
        Check.law(hand, "0");
        check.due("OVER now", hand.river(0, 0), 2);
        check.due("OVER behind one day", hand.river(1, 0), 3);
        check.due("LEVEL of all now", hand.river(0, 1), 90);
        check.due("LEVEL of all behind ten", hand.river(10, 1), 120);
        check.due("behind 60", hand.river(60, 1), 159);
        check.due("n -1", hand.river(-1, 0), RiverHand.BAD);
        check.due("n 61", hand.river(61, 0), RiverHand.BAD);
        check.due("what 2", hand.river(0, 2), RiverHand.BAD);
        check.due("what -1", hand.river(0, -1), RiverHand.BAD);
    }

    private static void over() {
        RiverHand hand = Check.river(60, 31, 31, 99);
        Check.law(hand, "0");
        hand.mend(3, 4, 1);
        check.due("the first: 3 a day, 1 on day 3", hand.over(0), 10);
        check.due("the second", hand.over(1), 4);
        check.due("the fourth", hand.over(3), RiverHand.NOT);
        check.due("of like ones the least", hand.over(-1), 1);
        hand.mend(1, 0, 31);
        check.due("now", hand.over(1), 0);
        check.due("reach 4", hand.over(4), RiverHand.BAD);
        check.due("reach -2", hand.over(-2), RiverHand.BAD);
        RiverHand dry = Check.river(60, 60);
        Check.law(dry, "0");
        dry.mend(0, 5, 0);
        check.due("none", dry.over(-1), RiverHand.NOT);
        dry.mend(0, 5, 1);
        dry.mend(0, 0, 30);
        dry.mend(0, 1, 90);
        check.due("on the 60th day", dry.over(0), 60);
        check.due("on the 60th day, of all", dry.over(-1), 0);
        dry.mend(0, 1, 91);
        check.due("on the 61st", dry.over(0), RiverHand.NOT);
    }

    /** By 6 a day but on day 0, SPRING 5: a rise, then falls, then the next week. */
    private static void signs() {
        RiverHand hand = Check.river(60);
        hand.mend(0, 5, 5);
        Check.law(hand, "d=0?0;d=3?5;6");
        check.due("rises", hand.signs(15, 0, 0), 3);
        check.due("falls", hand.signs(15, 0, 1), 10);
        check.due("the longest", hand.signs(15, 0, 2), 1);
        Check.law(hand, "d<2?0;d>4?0;8");
        check.due("rises", hand.signs(10, 0, 0), 6);
        check.due("falls", hand.signs(10, 0, 1), 4);
        check.due("the longest over the week's end", hand.signs(10, 0, 2), 4);
        check.due("the longest at the end", hand.signs(8, 0, 2), 3);
        check.due("no day", hand.signs(0, 0, 2), 0);
        check.due("60 days", hand.signs(60, 0, 0) >= 0 ? 1 : 0, 1);
        check.due("n 61", hand.signs(61, 0, 0), RiverHand.BAD);
        check.due("n -1", hand.signs(-1, 0, 0), RiverHand.BAD);
        check.due("reach 1", hand.signs(1, 1, 0), RiverHand.BAD);
        check.due("what 3", hand.signs(1, 0, 3), RiverHand.BAD);
        check.due("what -1", hand.signs(1, 0, -1), RiverHand.BAD);
    }

    private static void still() {
        RiverHand hand = Check.river(60, 60);
        Check.law(hand, "0");
        hand.mend(0, 5, 0);
        check.due("at once", hand.still(), 7);
        hand.mend(0, 5, 3);
        check.due("99 from the 23rd day on", hand.still(), 30);
        hand.mend(0, 0, 47);
        hand.mend(0, 5, 1);
        check.due("99 from the 52nd on", hand.still(), 59);
        hand.mend(0, 0, 46);
        check.due("99 from the 53rd on", hand.still(), 60);
        hand.mend(0, 0, 45);
        check.due("99 from the 54th on", hand.still(), RiverHand.NOT);
    }

    private static void throwIn() {
        RiverHand hand = Check.river(60, 60);
        Check.law(hand, "0");
        check.due("41 by 11 now", hand.throwIn(0, 41), 11);
        check.due("41 behind 3 days by 2", hand.throwIn(0, 341), 2);
        check.due("30 at once", hand.throwIn(0, 330), 0);
        check.due("59 now", hand.throwIn(0, 59), 29);
        check.due("60 would be OVER", hand.throwIn(0, 60), RiverHand.NOT);
        check.due("59 behind one day", hand.throwIn(0, 159), 26);
        check.due("into the other", hand.throwIn(11, 59), 29);
        check.due("the told one is not reached", hand.throwIn(1, 31), RiverHand.NOT);
        check.due("nine days", hand.throwIn(0, 957), 0);
        check.due("ten days: OVER at last", hand.throwIn(0, 1040), RiverHand.NOT);
        Check.law(hand, "l>40?10;0");
        check.due("what comes from above", hand.throwIn(1, 140), 11);
        hand.mend(1, 0, 60);
        check.due("OVER elsewhere", hand.throwIn(0, 0), RiverHand.NOT);
        RiverHand high = Check.river(99, 99);
        Check.law(high, "0");
        high.mend(0, 5, 0);
        check.due("98", high.throwIn(0, 98), 68);
        check.due("99", high.throwIn(0, 99), RiverHand.NOT);
        check.due("20 days", high.throwIn(10, 2030), 0);
    }

    private static void throwInRefused() {
        RiverHand hand = Check.river(60, 60);
        int[] wrongPlaces = {-1, 2, 20, 19, 100, Integer.MAX_VALUE, Integer.MIN_VALUE};
        for (int fr : wrongPlaces) {
            check.due("throwIn(" + fr + ", 0)", hand.throwIn(fr, 0), RiverHand.BAD);
        }
        int[] wrongDays = {-1, 2100, Integer.MAX_VALUE, Integer.MIN_VALUE};
        for (int nx : wrongDays) {
            check.due("throwIn(0, " + nx + ")", hand.throwIn(0, nx), RiverHand.BAD);
        }
    }

    private static void bridges() {
        RiverHand hand = Check.river(99, 99);
        Check.law(hand, "b*5");
        hand.mend(0, 5, 0);
        check.due("least LEVEL by a BRIDGE at the last", hand.bridges(1, 1), 2);
        check.due("none OVER", hand.bridges(1, 0), 0);
        hand.mend(1, 1, 30);
        hand.mend(0, 1, 26);
        check.due("1, 55 by two ways: that of fewest", hand.bridges(1, 1), 2);
        check.due("one OVER", hand.bridges(1, 0), 1);
        hand.mend(1, 1, 31);
        check.due("fewest OVER by both", hand.bridges(1, 1), 3);
        check.due("none OVER", hand.bridges(1, 0), 0);
        hand.mend(1, 2, 1);
        check.due("as they stand counts not", hand.bridges(1, 1), 3);
        check.due("0 days: all alike", hand.bridges(0, 1), 0);
        check.due("0 days: one OVER", hand.bridges(0, 0), 1);
        check.due("n -1", hand.bridges(-1, 0), RiverHand.BAD);
        check.due("n 21", hand.bridges(21, 0), RiverHand.BAD);
        check.due("what 2", hand.bridges(1, 2), RiverHand.BAD);
        check.due("what -1", hand.bridges(1, -1), RiverHand.BAD);
    }

    private static void bridgesOfLikeOnes() {
        RiverHand hand = Check.river(99, 99, 99);
        Check.law(hand, "0");
        check.due("all alike: none", hand.bridges(5, 1), 0);
        hand.mend(0, 5, 0);
        Check.law(hand, "n=0?b*9;0");
        check.due("one at the last", hand.bridges(1, 1), 4);
        RiverHand two = Check.river(99, 99);
        two.mend(0, 5, 0);
        two.mend(0, 0, 0);
        Check.law(two, "b");
        check.due("fewest of like ones", two.bridges(1, 1), 2);
        Check.law(two, "b*l");
        two.mend(1, 0, 0);
        two.mend(0, 0, 10);
        check.due("behind one day nothing is out", two.bridges(1, 1), 0);
        check.due("behind two days all is out", two.bridges(2, 1), 3);
        fewestBehindMore();
    }

    /**
     * 5 are lost by BRIDGES 0 and 1 (they come to the last, which is at 99), and by BRIDGE 2 alone (on the second day):
     * both leave the last OVER, and of like ones that with fewest counts though it comes later.
     */
    private static void fewestBehindMore() {
        RiverHand hand = Check.river(99, 99, 1);
        hand.mend(0, 5, 0);
        hand.mend(1, 0, 0);
        hand.mend(2, 0, 99);
        hand.mend(2, 3, 1);
        Check.law(hand, "g>0&d=0?0;b*5");
        check.due("one, not two", hand.bridges(2, 1), 4);
        check.due("one OVER", hand.bridges(2, 0), 1);
        Check.law(hand, "g>0?0;b*5");
        check.due("two, where the one loses nothing", hand.bridges(2, 1), 3);
        RiverHand all = Check.river(1, 1, 1, 1, 1, 1, 1, 1);
        check.due("all eight OVER", all.bridges(1, 0), 8);
        check.due("least LEVEL of all without a BRIDGE", all.bridges(1, 1), 0);
    }

    private static void nothingChanges() {
        RiverHand hand = Check.river(60, 60);
        hand.mend(0, 2, 1);
        hand.mend(2, 4, 7);
        hand.later(60, 0, 0);
        hand.river(60, 0);
        hand.over(-1);
        hand.signs(60, 0, 0);
        hand.still();
        hand.throwIn(0, 2099);
        hand.bridges(20, 0);
        int[] due = {30, 60, 1, 0, 0, 3, 0};
        for (int what = 0; what <= 6; what++) {
            check.due("of(0, " + what + ")", hand.of(0, what), due[what]);
        }
        check.due("RAIN", hand.of(2, 4), 7);
        check.due("led days", hand.led(0), 0);
    }
}
