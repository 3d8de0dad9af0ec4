/** Promises 16 to 22: the ring, gauges, answers, turns and draws. */
public final class RingAndGaugeTest {
    private static final Check check = new Check();

    public static void main(String[] args) {
        ring();
        judge();
        gaugesRefused();
        fitsRains();
        fitsLevelsAndSpan();
        hearsAndOdd();
        answersThatEnd();
        answersRefused();
        byTurns();
        byTurnsOfLikeOnes();
        byTurnsRefused();
        drawn();
        drawnRefused();
        check.finish();
    }

    private static void ring() {
        RiverHand hand = Check.river(99, 99, 99);
        Check.law(hand, "d<2?4;5");
        check.due("0 days", hand.ring(1, 0), 1);
        check.due("2 days, 4 go", hand.ring(0, 2), 0);
        check.due("3 days, 5 go", hand.ring(0, 3), 1);
        check.due("4 days", hand.ring(0, 4), 2);
        check.due("5 days", hand.ring(0, 5), 8);
        check.due("60 days", hand.ring(0, 60), 8);
        check.due("gone when", hand.ring(0, -1), 5);
        check.due("the last, gone when", hand.ring(2, -1), 3);
        Check.law(hand, "4");
        check.due("never", hand.ring(2, -1), RiverHand.NOT);
        check.due("still there", hand.ring(2, 60), 2);
        Check.law(hand, "d=3?5;0");
        check.due("once a week", hand.ring(0, 10), 1);
        check.due("once a week", hand.ring(0, 11), 2);
        check.due("gone in the third week", hand.ring(0, -1), 18);
        Check.law(hand, "l>34?5;0");
        check.due("of LEVEL as the day begins", hand.ring(0, 2), 0);
        check.due("36 on the third day", hand.ring(0, 3), 1);
        check.due("reach 3", hand.ring(3, 0), RiverHand.BAD);
        check.due("reach -1", hand.ring(-1, 0), RiverHand.BAD);
        check.due("n 61", hand.ring(0, 61), RiverHand.BAD);
        check.due("n -2", hand.ring(0, -2), RiverHand.BAD);
    }

    private static void judge() {
        RiverHand hand = Check.river(99, 99);
        Check.law(hand, "0");
        Check.bytes(hand, 0, 30, 33, 36, 39);
        check.due("all so", hand.judge(0, 0), RiverHand.NOT);
        check.due("not of the other", hand.judge(0, 1), 1);
        Check.bytes(hand, 0, 100, 33, 100, 40, 41);
        check.due("the first that is not so", hand.judge(0, 0), 3);
        Check.bytes(hand, 0, 29);
        check.due("at once", hand.judge(0, 0), 0);
        Check.bytes(hand, 0);
        check.due("nothing read", hand.judge(0, 0), RiverHand.NOT);
        Check.bytes(hand, 0, -100);
        check.due("-100 is no LEVEL", hand.judge(0, 0), 0);
        hand.row(0, 0, 60);
        for (int i = 0; i < 60; i++) {
            hand.put(0, i, 100);
        }
        hand.put(0, 41, 1);
        check.due("the 42nd does not count", hand.judge(0, 0), RiverHand.NOT);
        hand.put(0, 40, 1);
        check.due("the 41st does", hand.judge(0, 0), 40);
        hand.put(0, 40, 99);
        check.due("99 then", hand.judge(0, 0), RiverHand.NOT);
    }

    private static void gaugesRefused() {
        RiverHand hand = Check.river(99);
        Check.bytes(hand, 0, 30);
        hand.row(1, 2, 3);
        hand.body(0);
        hand.keep(2, 0);
        int[] shelves = {-1, 6, 3, 1, 2};
        int[] due = {RiverHand.BAD, RiverHand.BAD, -11, -12, -12};
        for (int i = 0; i < shelves.length; i++) {
            check.due("judge of " + shelves[i], hand.judge(shelves[i], 0), due[i]);
            for (int what = 0; what <= 4; what++) {
                check.due("fits of " + shelves[i], hand.fits(shelves[i], 0, 0, what), due[i]);
            }
        }
        check.due("judge, reach 1", hand.judge(0, 1), RiverHand.BAD);
        check.due("judge, reach 1 of nothing", hand.judge(3, 1), RiverHand.BAD);
        check.due("fits, reach 1", hand.fits(0, 1, 0, 0), RiverHand.BAD);
        check.due("fits, reach -1", hand.fits(0, -1, 0, 0), RiverHand.BAD);
        check.due("fits, DAY 7", hand.fits(0, 0, 7, 0), RiverHand.BAD);
        check.due("fits, DAY -1", hand.fits(0, 0, -1, 1), RiverHand.BAD);
        check.due("fits, DAY 6", hand.fits(0, 0, 6, 0), 10);
        check.due("fits, REACH 1", hand.fits(0, 0, 1, 2), RiverHand.BAD);
        check.due("fits, REACH 1", hand.fits(0, 0, 1, 3), RiverHand.BAD);
        check.due("fits, REACH 1", hand.fits(0, 0, 1, 4), RiverHand.BAD);
        check.due("fits, what 5", hand.fits(0, 0, 0, 5), RiverHand.BAD);
        check.due("fits, what -1", hand.fits(0, 0, 0, -1), RiverHand.BAD);
        check.due("fits of nothing, what 5", hand.fits(3, 0, 0, 5), RiverHand.BAD);
    }

    private static void fitsRains() {
        RiverHand hand = Check.river(99, 99);
        Check.law(hand, "0");
        Check.bytes(hand, 0, 30, 33, 40);
        check.due("RAIN of 1 was 4", hand.fits(0, 0, 1, 1), 4);
        check.due("just one", hand.fits(0, 0, 1, 0), 1);
        check.due("RAIN of 0 none", hand.fits(0, 0, 0, 0), 0);
        check.due("RAIN of 0 none", hand.fits(0, 0, 0, 1), RiverHand.NOT);
        Check.bytes(hand, 0, 30);
        check.due("any", hand.fits(0, 0, 0, 0), 10);
        check.due("any", hand.fits(0, 0, 0, 1), 0);
        hand.mend(0, 0, 90);
        Check.bytes(hand, 0, 90, 99);
        check.due("6 or more", hand.fits(0, 0, 0, 0), 4);
        check.due("6 or more", hand.fits(0, 0, 0, 1), 6);
        check.due("RAIN as it was", hand.of(0, 4), 0);
    }

    private static void fitsLevelsAndSpan() {
        RiverHand hand = Check.river(99, 99);
        hand.mend(0, 5, 0);
        hand.mend(1, 0, 0);
        Check.law(hand, "l/5-2*b");
        Check.bytes(hand, 0, 0, 7);
        check.due("LEVELS ahead", hand.fits(0, 1, 0, 2), 5);
        check.due("the least of 35 .. 39", hand.fits(0, 1, 0, 3), 35);
        check.due("of its own: none", hand.fits(0, 1, 1, 2), 0);
        check.due("of its own: none", hand.fits(0, 1, 1, 3), RiverHand.NOT);
        check.due("by no BRIDGE", hand.fits(0, 1, 0, 4), 0);
        Check.bytes(hand, 0, 0, 4);
        check.due("with a BRIDGE ahead", hand.fits(0, 1, 0, 4), 2);
        Check.bytes(hand, 0, 0, 6);
        check.due("without", hand.fits(0, 1, 0, 4), 1);
        check.due("its own BRIDGE: alike", hand.fits(0, 1, 1, 4), 3);
        Check.bytes(hand, 0, 100);
        check.due("all LEVELS", hand.fits(0, 1, 1, 2), 100);
        check.due("the least", hand.fits(0, 1, 1, 3), 0);
    }

    private static void answers(RiverHand hand, long above, long below, int odd, int fewest) {
        check.due("above", hand.hears(5, 0), above);
        check.due("below", hand.hears(5, 1), below);
        check.due("ODD", hand.odd(5, 0), odd);
        check.due("FEWEST", hand.odd(5, 1), fewest);
    }

    private static void hearsAndOdd() {
        RiverHand hand = new RiverHand();
        Check.bytes(hand, 5);
        answers(hand, 1, 2, 0, 4);
        Check.bytes(hand, 5, 1, 1);
        answers(hand, 2, 3, 1, 3);
        Check.bytes(hand, 5, 1, 0, 1, 2);
        answers(hand, 1, 5, 0, 6);
        Check.bytes(hand, 5, 0, 1, 0, 0, 0, 2, 0, 1);
        answers(hand, 1, 2, -2, 4);
        Check.bytes(hand, 5, 1, 1, 1, 1, 1, 1);
        answers(hand, 8, 9, 3, 1);
        Check.bytes(hand, 5, 1, 1, 1, 1, 1, 1, 1, 1, 0, 1);
        answers(hand, 16, 17, 3, 0);
    }

    private static void answersThatEnd() {
        RiverHand hand = new RiverHand();
        Check.bytes(hand, 5, 1, 1, 1);
        answers(hand, 2, 3, 1, 3);
        int[][] noSuch = {{2, 1}, {-1, 1}, {1, 3}, {1, -1}, {0, 3}};
        for (int[] two : noSuch) {
            Check.bytes(hand, 5, 1, 1, two[0], two[1], 1, 1, 0, 1);
            answers(hand, 2, 3, 1, 3);
        }
        hand.row(5, 0, 60);
        for (int i = 0; i < 60; i++) {
            hand.put(5, i, 1);
        }
        answers(hand, 1 << 20, (1 << 20) + 1, 20, 0);
        for (int i = 1; i < 60; i += 2) {
            hand.put(5, i, 2);
        }
        answers(hand, 1, (1 << 20) + 1, 0, 24);
    }

    private static void answersRefused() {
        RiverHand hand = new RiverHand();
        Check.bytes(hand, 5, 1, 1);
        hand.row(1, 4, 2);
        hand.body(0);
        hand.keep(2, 0);
        for (int shelf : new int[] {-1, 6, 0, 1, 2}) {
            check.due("hears of " + shelf, hand.hears(shelf, 0), Long.MIN_VALUE);
            check.due("odd of " + shelf, hand.odd(shelf, 0), RiverHand.VOID);
        }
        for (int part : new int[] {-1, 2}) {
            check.due("hears, part " + part, hand.hears(5, part), Long.MIN_VALUE);
            check.due("odd, what " + part, hand.odd(5, part), RiverHand.VOID);
        }
    }

    private static void byTurns() {
        RiverHand hand = Check.river(99, 99, 99);
        hand.mend(1, 0, 40);
        Check.law(hand, "0");
        check.due("one throws", hand.byTurns(1, 100, 0), -1);
        check.due("first", hand.byTurns(1, 100, 1), 0);
        check.due("both", hand.byTurns(1, 200, 0), -10);
        check.due("two and one", hand.byTurns(1, 300, 0), -1);
        check.due("three and two", hand.byTurns(1, 500, 0), -1);
        check.due("behind 20 days", hand.byTurns(1, 120, 0), 59);
        check.due("the other way about", hand.byTurns(10, 100, 0), 19);
        // All that is in the first one goes to the other at once.
        Check.law(hand, "l");
        hand.mend(0, 0, 10);
        hand.mend(1, 0, 0);
        hand.mend(0, 5, 0);
        check.due("to take is best", hand.byTurns(1, 101, 1), 1);
        check.due("1 goes", hand.byTurns(1, 101, 0), -1);
        hand.mend(0, 0, 5);
        check.due("taken to 0, not below", hand.byTurns(1, 101, 0), 0);
        // 20 go unless it is at 30: to do nothing is best for both.
        hand.mend(0, 0, 30);
        hand.mend(1, 0, 30);
        Check.law(hand, "l=30?0;20");
        check.due("both do nothing", hand.byTurns(1, 201, 0), 0);
        check.due("nothing first", hand.byTurns(1, 201, 1), 2);
        check.due("nothing thrice", hand.byTurns(1, 301, 0), 0);
    }

    private static void byTurnsOfLikeOnes() {
        RiverHand hand = Check.river(99, 99);
        hand.mend(0, 0, 99);
        Check.law(hand, "0");
        check.due("nothing ahead of throwing at 99", hand.byTurns(1, 100, 1), 2);
        check.due("99 - 30", hand.byTurns(1, 100, 0), 69);
        hand.mend(0, 0, 98);
        check.due("throws, held at 99", hand.byTurns(1, 100, 0), 69);
        check.due("throws", hand.byTurns(1, 100, 1), 0);
        hand.mend(0, 0, 0);
        hand.mend(1, 0, 5);
        check.due("both at the edges", hand.byTurns(10, 200, 0), 5);
        hand.mend(0, 0, 99);
        check.due("all ways lead to 99", hand.byTurns(1, 320, 0), 99 - 14);
    }

    private static void byTurnsRefused() {
        RiverHand hand = Check.river(60, 60);
        for (int ab : new int[] {-1, 0, 11, 2, 20, 100, -10, Integer.MAX_VALUE, Integer.MIN_VALUE}) {
            check.due("byTurns(" + ab + ", 100, 0)", hand.byTurns(ab, 100, 0), RiverHand.VOID);
        }
        for (int nt : new int[] {-1, 0, 99, 121, 199, 600, Integer.MAX_VALUE, Integer.MIN_VALUE}) {
            check.due("byTurns(1, " + nt + ", 0)", hand.byTurns(1, nt, 0), RiverHand.VOID);
        }
        check.due("what 2", hand.byTurns(1, 100, 2), RiverHand.VOID);
        check.due("what -1", hand.byTurns(1, 100, -1), RiverHand.VOID);
    }

    private static void drawn() {
        RiverHand hand = Check.river(99, 99);
        Check.law(hand, "0");
        hand.mend(0, 4, 9);
        hand.mend(0, 0, 90);
        check.due("dry: 99 behind 3 days, each year anew", hand.drawn(1, 20500, 0), 6);
        check.due("all", hand.drawn(1, 20500, -1), 6);
        check.due("the other is dry", hand.drawn(1, 20500, 1), 0);
        int z = 77;
        int level = 30;
        int often = 0;
        for (int i = 0; i < 60; i++) {
            z = z * 1103515245 + 12345;
            int rain = (z >>> 16) % 12 < 5 ? (z >>> 8) % 10 : 0;
            level = Math.min(99, level + rain);
            often += level >= 99 ? 1 : 0;
        }
        check.due("the other by draws", hand.drawn(77, 16005, 1), often);
        check.due("the most", hand.drawn(-5, 306012, -1) > 0 ? 1 : 0, 1);
        check.due("RAIN as it was", hand.of(0, 4), 9);
        // What is drawn counts for the LAW's r, and DAY goes on for its d.
        Check.law(hand, "r*0+d*0+20");
        check.due("all goes", hand.drawn(3, 16000, 0), 0);
    }

    private static void drawnRefused() {
        RiverHand hand = Check.river(60);
        int[] wrong = {-1, 0, 100, 10000, 10013, 10113, 16100, 310100, 9912, Integer.MAX_VALUE, Integer.MIN_VALUE};
        for (int nmw : wrong) {
            check.due("drawn(0, " + nmw + ", 0)", hand.drawn(0, nmw, 0), RiverHand.BAD);
        }
        check.due("reach 1", hand.drawn(0, 10100, 1), RiverHand.BAD);
        check.due("reach -2", hand.drawn(0, 10100, -2), RiverHand.BAD);
        check.due("the most", hand.drawn(0, 306012, 0) >= 0 ? 1 : 0, 1);
    }
}
