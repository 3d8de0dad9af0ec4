/** The edges that the document names of days in thought: Terms 2; promises 9 to 15. */
public final class EdgesOfThoughtTest {
    private static final Check check = new Check();
    private static final int BAD = RiverHand.BAD, NOT = RiverHand.NOT;
    private static final int LEVEL = 0, BANK = 1, BRIDGE = 2, GIFTS = 3, RAIN = 4, SPRING = 5, DAY = 6;
    private static final int[] FAR = {Integer.MIN_VALUE, Integer.MAX_VALUE};

    public static void main(String[] args) {
        daysOfLater();
        later();
        signFromTheFirstDay();
        daysOfRiver();
        overInBits();
        levelOfAll();
        river();
        firstOver();
        firstOverNot();
        firstOfAll();
        over();
        signsCounted();
        longestRun();
        signs();
        still();
        stillFirst();
        stillOfAll();
        stillNot();
        leastThrown();
        thrownHeld();
        hasAtSomeDay();
        noneOver();
        throwNot();
        throwInNumbers();
        throwInRefused();
        fewestOver();
        thenLeastLevel();
        likeBridges();
        bridgesDays();
        check.finish();
    }

    private static void daysOfLater() {
        check.says("IN THOUGHT, behind n (0 .. 60) days: LEVEL of one");
        RiverHand hand = Check.calm(99);
        hand.mend(0, SPRING, 1);
        hand.mend(0, LEVEL, 20);
        check.due("0 days", hand.later(0, 0, 0), 20);
        check.due("1 day", hand.later(1, 0, 0), 21);
        check.due("59 days", hand.later(59, 0, 0), 79);
        check.due("60 days", hand.later(60, 0, 0), 80);
        check.due("61 days", hand.later(61, 0, 0), BAD);
        check.due("-1 days", hand.later(-1, 0, 0), BAD);
        for (int n : FAR) {
            check.due(n + " days", hand.later(n, 0, 0), BAD);
        }
        check.due("now, still", hand.of(0, LEVEL), 20);
    }

    private static void later() {
        check.says("Behind n days: LEVEL (what 0), SIGN (1; n 1 on) of one. BAD.");
        RiverHand hand = Check.calm(99, 99);
        for (int what : new int[] {-1, 2, Integer.MIN_VALUE, Integer.MAX_VALUE}) {
            check.due("what " + what, hand.later(9, 0, what), BAD);
        }
        for (int reach : new int[] {-1, 2, 8, Integer.MIN_VALUE, Integer.MAX_VALUE}) {
            check.due("LEVEL of " + reach, hand.later(1, reach, 0), BAD);
            check.due("SIGN of " + reach, hand.later(1, reach, 1), BAD);
        }
        check.due("the last", hand.later(1, 1, 0), 30);
    }

    private static void signFromTheFirstDay() {
        check.says("SIGN of one on the n-th day (n 1 on)");
        RiverHand hand = Check.calm(99);
        hand.mend(0, RAIN, 5);
        hand.mend(0, LEVEL, 50);
        Check.law(hand, "d=1?7;0");
        check.due("0th day", hand.later(0, 0, 1), BAD);
        check.due("-1st day", hand.later(-1, 0, 1), BAD);
        check.due("first: 55", hand.later(1, 0, 1), 1);
        check.due("second: 48", hand.later(2, 0, 1), 2);
        check.due("third: 48", hand.later(3, 0, 1), 0);
        check.due("57th: DAY 0", hand.later(57, 0, 1), 1);
        check.due("58th: DAY 1", hand.later(58, 0, 1), 2);
        check.due("60th", hand.later(60, 0, 1), 0);
        check.due("61st", hand.later(61, 0, 1), BAD);
        for (int n : FAR) {
            check.due(n + "th", hand.later(n, 0, 1), BAD);
        }
    }

    private static void daysOfRiver() {
        check.says("IN THOUGHT, behind n (0 .. 60) days");
        RiverHand hand = Check.calm(80, 79);
        hand.mend(0, SPRING, 1);
        hand.mend(0, LEVEL, 20);
        for (int what = 0; what <= 1; what++) {
            check.due("-1", hand.river(-1, what), BAD);
            check.due("61", hand.river(61, what), BAD);
            for (int n : FAR) {
                check.due(n + "", hand.river(n, what), BAD);
            }
        }
        check.due("OVER behind 59", hand.river(59, 0), 0);
        check.due("OVER behind 60", hand.river(60, 0), 1);
        check.due("all behind 0", hand.river(0, 1), 50);
        check.due("all behind 60", hand.river(60, 1), 110);
    }

    private static void overInBits() {
        check.says("which are OVER (bits)");
        RiverHand hand = Check.river(30, 31, 30, 31, 31, 31, 31, 30);
        check.due("bits 0, 2, 7", hand.river(0, 0), 1 + 4 + 128);
        RiverHand all = Check.river(1, 1, 1, 1, 1, 1, 1, 1);
        check.due("all eight", all.river(0, 0), 255);
    }

    private static void levelOfAll() {
        check.says("LEVEL of all; SIGN of one");
        RiverHand hand = Check.calm(99, 99, 99, 99, 99, 99, 99, 99);
        check.due("eight times 30", hand.river(0, 1), 240);
        for (int i = 0; i < 8; i++) {
            hand.mend(i, LEVEL, 99);
        }
        check.due("the most", hand.river(60, 1), 792);
        for (int i = 0; i < 8; i++) {
            hand.mend(i, LEVEL, 0);
        }
        check.due("the least", hand.river(60, 1), 0);
    }

    private static void river() {
        check.says("Behind n days: which are OVER (what 0: bits), LEVEL of all (1). BAD.");
        RiverHand hand = Check.river(60);
        for (int what : new int[] {-1, 2, Integer.MIN_VALUE, Integer.MAX_VALUE}) {
            check.due("what " + what, hand.river(0, what), BAD);
        }
    }

    private static void firstOver() {
        check.says("FIRST OVER: behind how many days (0 .. 60) one is first OVER");
        RiverHand hand = Check.calm(80);
        hand.mend(0, SPRING, 1);
        hand.mend(0, LEVEL, 80);
        check.due("now", hand.over(0), 0);
        hand.mend(0, LEVEL, 79);
        check.due("behind one", hand.over(0), 1);
        hand.mend(0, LEVEL, 20);
        check.due("behind 60", hand.over(0), 60);
        hand.mend(0, LEVEL, 50);
        hand.mend(0, BANK, 52);
        Check.law(hand, "d=2?9;0");
        check.due("first, though it falls behind that", hand.over(0), 2);
        RiverHand full = Check.calm(99, 99, 99, 99, 99, 99, 99, 40);
        full.mend(4, RAIN, 9);
        full.mend(5, RAIN, 1);
        check.due("the last: 39 behind 5 days, 40 behind 6", full.over(7), 6);
    }

    private static void firstOverNot() {
        check.says("one is first OVER; NOT;");
        RiverHand hand = Check.calm(80, 99);
        hand.mend(0, SPRING, 1);
        hand.mend(0, LEVEL, 19);
        check.due("behind 61", hand.over(0), NOT);
        check.due("never", hand.over(1), NOT);
    }

    private static void firstOfAll() {
        check.says("which one of all (of like ones the least; NOT)");
        RiverHand hand = Check.calm(99, 40, 40, 39, 99, 99, 99, 39);
        check.due("none", hand.over(-1), NOT);
        hand.mend(0, RAIN, 9);
        check.due("of 3 and 7 the least", hand.over(-1), 3);
        hand.mend(2, BANK, 30);
        check.due("2 now", hand.over(-1), 2);
        hand.mend(2, BANK, 40);
        hand.mend(3, BANK, 99);
        check.due("the last alone", hand.over(-1), 7);
        hand.mend(0, RAIN, 0);
        hand.mend(0, SPRING, 1);
        hand.mend(0, BANK, 90);
        check.due("behind 60 days", hand.over(-1), 0);
        hand.mend(0, BANK, 91);
        check.due("behind 61 days", hand.over(-1), NOT);
    }

    private static void over() {
        check.says("FIRST OVER (reach -1: which one). BAD; NOT.");
        RiverHand hand = Check.calm(99, 30);
        check.due("-1", hand.over(-1), 1);
        for (int reach : new int[] {-2, 2, 8, Integer.MIN_VALUE, Integer.MAX_VALUE}) {
            check.due("reach " + reach, hand.over(reach), BAD);
        }
    }

    /** SPRING 5: it rises on DAYS 0, 1, 5 and 6, falls on 3 and 4, and neither on 2. */
    private static RiverHand week() {
        RiverHand hand = Check.river(99);
        hand.mend(0, LEVEL, 50);
        hand.mend(0, SPRING, 5);
        Check.law(hand, "d<2?4;d=2?5;d<5?7;4");
        return hand;
    }

    private static void signsCounted() {
        check.says("SIGNS of one on the first n days: how many rises; how many falls");
        RiverHand hand = week();
        int[] rises = {0, 1, 2, 2, 2, 2, 3, 4, 5, 6, 6};
        int[] falls = {0, 0, 0, 0, 1, 2, 2, 2, 2, 2, 2};
        for (int n = 0; n < rises.length; n++) {
            check.due("rises on " + n, hand.signs(n, 0, 0), rises[n]);
            check.due("falls on " + n, hand.signs(n, 0, 1), falls[n]);
        }
        check.due("rises on 60", hand.signs(60, 0, 0), 8 * 4 + 2);
        check.due("falls on 60", hand.signs(60, 0, 1), 8 * 2 + 1);
    }

    private static void longestRun() {
        check.says("the longest run of rises together");
        RiverHand hand = week();
        int[] longest = {0, 1, 2, 2, 2, 2, 2, 2, 3, 4, 4};
        for (int n = 0; n < longest.length; n++) {
            check.due("on " + n, hand.signs(n, 0, 2), longest[n]);
        }
        check.due("on 60", hand.signs(60, 0, 2), 4);
        Check.law(hand, "d=1|d=4?5;0");
        hand.mend(0, LEVEL, 0);
        check.due("a day of neither parts them", hand.signs(4, 0, 2), 2);
        Check.law(hand, "d=1|d=4?6;0");
        check.due("a day of fall parts them", hand.signs(4, 0, 2), 2);
        Check.law(hand, "0");
        hand.mend(0, LEVEL, 0);
        hand.mend(0, SPRING, 1);
        check.due("all 60", hand.signs(60, 0, 2), 60);
        hand.mend(0, LEVEL, 40);
        check.due("to 99", hand.signs(60, 0, 2), 59);
        hand.mend(0, SPRING, 0);
        check.due("none", hand.signs(60, 0, 2), 0);
    }

    private static void signs() {
        check.says("SIGNS on the first n days: rises (what 0), falls (1), the longest run (2). BAD.");
        RiverHand hand = Check.river(60, 60);
        for (int what = 0; what <= 2; what++) {
            check.due("no day", hand.signs(0, 0, what), 0);
            check.due("-1 days", hand.signs(-1, 0, what), BAD);
            check.due("61 days", hand.signs(61, 0, what), BAD);
            check.due("reach 2", hand.signs(1, 2, what), BAD);
            check.due("reach -1", hand.signs(1, -1, what), BAD);
            for (int n : FAR) {
                check.due("n " + n, hand.signs(n, 0, what), BAD);
                check.due("reach " + n, hand.signs(1, n, what), BAD);
            }
        }
        for (int what : new int[] {-1, 3, Integer.MIN_VALUE, Integer.MAX_VALUE}) {
            check.due("what " + what, hand.signs(1, 0, what), BAD);
        }
    }

    private static void still() {
        check.says("STILL: behind how many days (7 .. 60)");
        RiverHand hand = Check.calm(99);
        check.due("at once, behind 7", hand.still(), 7);
        hand.mend(0, SPRING, 1);
        hand.mend(0, LEVEL, 98);
        check.due("99 from the first on", hand.still(), 8);
        hand.mend(0, LEVEL, 46);
        check.due("99 from the 53rd on", hand.still(), 60);
        hand.mend(0, LEVEL, 45);
        check.due("99 from the 54th on", hand.still(), NOT);
    }

    private static void stillFirst() {
        check.says("are first as they were 7 days ahead; NOT.");
        RiverHand hand = Check.calm(99);
        hand.mend(0, RAIN, 5);
        Check.law(hand, "d=6?5;0");
        check.due("5 more, 5 less in a week", hand.still(), 7);
        check.due("though it is not still by days", hand.later(1, 0, 0), 35);
        Check.law(hand, "d=6?4;0");
        // 30, 35 .. 35, 31: one more each week, to 99; more and less by 4 at last.
        hand.mend(0, LEVEL, 93);
        check.due("98, 94; 99, 95; 99, 95", hand.still(), 15);
    }

    private static void stillOfAll() {
        check.says("LEVELS of all are first as they were");
        RiverHand hand = Check.calm(99, 99, 99, 99, 99, 99, 99, 99);
        check.due("all", hand.still(), 7);
        Check.law(hand, "g>0&d=0?1;0");
        hand.mend(7, LEVEL, 2);
        hand.mend(7, GIFTS, 1);
        check.due("the last falls to 0 behind 8 days", hand.still(), 15);
        Check.law(hand, "g>0?1;0");
        hand.mend(7, GIFTS, 0);
        hand.mend(3, GIFTS, 1);
        hand.mend(3, LEVEL, 4);
        hand.mend(4, LEVEL, 50);
        check.due("LEVEL of all is the same, not LEVELS", hand.river(1, 1), hand.river(0, 1));
        check.due("one falls, the next rises, 4 days", hand.still(), 11);
        hand.mend(3, GIFTS, 0);
        hand.mend(0, GIFTS, 1);
        hand.mend(0, LEVEL, 54);
        hand.mend(1, LEVEL, 0);
        check.due("54 days", hand.still(), NOT);
        hand.mend(0, LEVEL, 53);
        check.due("53 days", hand.still(), 60);
        // 1, 64; 0, 64 behind the first day; the second falls by one each week from then on.
        RiverHand two = Check.calm(99, 99);
        two.mend(0, LEVEL, 1);
        two.mend(1, LEVEL, 64);
        Check.law(two, "d=0?1;0");
        check.due("the first is not as it was behind 7, nor the second behind more", two.still(), NOT);
    }

    private static void stillNot() {
        check.says("STILL. NOT.");
        RiverHand hand = Check.calm(99);
        hand.mend(0, LEVEL, 20);
        check.due("from the first day on", hand.still(), 7);
        hand.mend(0, SPRING, 1);
        check.due("it rises on 60 days", hand.still(), NOT);
        check.due("to 80", hand.later(60, 0, 0), 80);
    }

    private static void leastThrown() {
        check.says("THROW: the least v (0 .. 99) to be thrown now into one REACH");
        RiverHand hand = Check.calm(99, 99);
        check.due("nothing", hand.throwIn(0, 30), 0);
        check.due("one", hand.throwIn(0, 31), 1);
        hand.mend(0, LEVEL, 0);
        check.due("98", hand.throwIn(0, 98), 98);
        // All goes on to the next one, of which 20 are enough.
        Check.law(hand, "l=70?20;0");
        hand.mend(1, LEVEL, 0);
        check.due("70 alone is so", hand.throwIn(1, 120), 70);
    }

    private static void thrownHeld() {
        check.says("(LEVEL more, 99 at most)");
        RiverHand hand = Check.calm(99, 99);
        hand.mend(0, LEVEL, 60);
        hand.mend(1, LEVEL, 0);
        // From 99 alone all goes, and 99 is OVER: no v is so.
        Check.law(hand, "l=99?20;0");
        check.due("99 is OVER at any BANK", hand.throwIn(1, 120), NOT);
        Check.law(hand, "l>98?0;l=98?20;0");
        check.due("98", hand.throwIn(1, 120), 38);
    }

    private static void hasAtSomeDay() {
        check.says("by which a told one has x (0 .. 99) or more behind some of the next 0 to n (0 .. 20) days");
        RiverHand hand = Check.calm(99, 99);
        check.due("x 0", hand.throwIn(0, 0), 0);
        check.due("now", hand.throwIn(0, 40), 10);
        hand.mend(0, SPRING, 1);
        check.due("behind 0 days", hand.throwIn(0, 50), 20);
        check.due("behind 1", hand.throwIn(0, 150), 19);
        check.due("behind 20", hand.throwIn(0, 2050), 0);
        check.due("behind 20, 51", hand.throwIn(0, 2051), 1);
        // It has 30 now, and falls.
        Check.law(hand, "20");
        check.due("at first, not behind n", hand.throwIn(0, 330), 0);
        // It has 30 + 1 - 0 behind one day, and falls behind that.
        Check.law(hand, "d=0?0;20");
        check.due("between", hand.throwIn(0, 331), 0);
        check.due("more than x", hand.throwIn(0, 2020), 0);
    }

    private static void noneOver() {
        check.says("and none is OVER on any of these; NOT.");
        RiverHand hand = Check.calm(60, 60, 60);
        check.due("59", hand.throwIn(0, 59), 29);
        check.due("60 is OVER", hand.throwIn(0, 60), NOT);
        hand.mend(2, LEVEL, 60);
        check.due("another is OVER now", hand.throwIn(0, 0), NOT);
        hand.mend(2, LEVEL, 59);
        check.due("another is not", hand.throwIn(0, 0), 0);
        hand.mend(4, RAIN, 1);
        check.due("behind 4 days", hand.throwIn(0, 400), 0);
        check.due("behind 5 days another is OVER", hand.throwIn(0, 500), NOT);
        check.due("though it has x ahead of that", hand.throwIn(0, 530), NOT);
        // OVER at first alone: 60 goes at once.
        hand.mend(2, LEVEL, 30);
        hand.mend(0, LEVEL, 60);
        Check.law(hand, "l>59?20;0");
        check.due("OVER on day 0 counts", hand.throwIn(10, 230), NOT);
    }

    private static void throwNot() {
        check.says("THROW into a REACH (fr: 10 times that, and the told one; nx: 100 n, and x). BAD; NOT.");
        RiverHand hand = Check.calm(99, 99);
        check.due("into 0, told 0", hand.throwIn(0, 31), 1);
        check.due("into 0, told 1", hand.throwIn(1, 31), NOT);
        check.due("into 1, told 0", hand.throwIn(10, 31), NOT);
        check.due("into 1, told 1", hand.throwIn(11, 31), 1);
        check.due("x 99 is OVER", hand.throwIn(0, 99), NOT);
        check.due("x 98", hand.throwIn(0, 98), 68);
        check.due("n 20, x 98", hand.throwIn(0, 2098), 68);
        check.due("n 20, x 99", hand.throwIn(0, 2099), NOT);
    }

    private static void throwInNumbers() {
        check.says("(fr: 10 times that, and the told one; nx: 100 n, and x)");
        RiverHand hand = Check.calm(99, 99, 99, 99, 99, 99, 99, 99);
        hand.mend(7, LEVEL, 20);
        check.due("into 7, told 7", hand.throwIn(77, 25), 5);
        check.due("into 7, told 0", hand.throwIn(70, 30), 0);
        check.due("into 0, told 7", hand.throwIn(7, 25), NOT);
        Check.law(hand, "l>50?10;0");
        check.due("into 6, told 7", hand.throwIn(67, 130), 21);
        check.due("into 6, told 7 behind 0 days", hand.throwIn(67, 30), NOT);
    }

    private static void throwInRefused() {
        check.says("(fr: 10 times that, and the told one; nx: 100 n, and x). BAD;");
        RiverHand hand = Check.calm(99, 99);
        for (int fr : new int[] {-1, -10, -11, 2, 9, 12, 19, 20, 21, 100, 110, Integer.MIN_VALUE, Integer.MAX_VALUE}) {
            check.due("fr " + fr, hand.throwIn(fr, 0), BAD);
        }
        for (int nx : new int[] {-1, -100, 2100, 2199, 10000, Integer.MIN_VALUE, Integer.MAX_VALUE}) {
            check.due("nx " + nx, hand.throwIn(0, nx), BAD);
        }
        check.due("the most nx", hand.throwIn(0, 2099), NOT);
        check.due("the most fr", hand.throwIn(11, 0), 0);
    }

    /** Reaches of which 5 go where there is a BRIDGE. */
    private static RiverHand bridged(int... banks) {
        RiverHand hand = Check.calm(banks);
        Check.law(hand, "b*5");
        return hand;
    }

    private static void fewestOver() {
        check.says("of all ways to have BRIDGES or not, that by which fewest REACHES are OVER behind n (0 .. 20) days");
        RiverHand hand = bridged(30, 99);
        // Without one at the first it is OVER; with one 5 come to the other, which is not; LEVEL of all is 55 by a BRIDGE there.
        check.due("how many", hand.bridges(1, 0), 0);
        check.due("both", hand.bridges(1, 1), 3);
        hand.mend(1, BANK, 30);
        check.due("both", hand.bridges(1, 1), 2);
        check.due("one is OVER by any way", hand.bridges(1, 0), 1);
        hand.mend(0, BANK, 31);
        check.due("the other alone", hand.bridges(1, 1), 2);
        check.due("none", hand.bridges(1, 0), 0);
        RiverHand all = bridged(1, 1, 1, 1, 1, 1, 1, 1);
        check.due("all eight by any way", all.bridges(1, 0), 8);
        check.due("then least LEVEL, by the last", all.bridges(1, 1), 128);
        fewestOverAheadOfFewestBridges();
    }

    /** LEVEL of all is 80 by each way; by both BRIDGES 0 and 1 none is OVER, by one alone or none one is. */
    private static void fewestOverAheadOfFewestBridges() {
        RiverHand hand = bridged(30, 21, 99);
        hand.mend(1, LEVEL, 20);
        hand.mend(2, GIFTS, 1);
        Check.law(hand, "g>0?0;b*5");
        check.due("0 and 1", hand.bridges(1, 1), 3);
        check.due("none is OVER", hand.bridges(1, 0), 0);
    }

    private static void thenLeastLevel() {
        check.says("then LEVEL of all is least: how many; which (bits;");
        RiverHand hand = bridged(99, 99, 99);
        check.due("5 out by the last", hand.bridges(1, 1), 4);
        check.due("10 out by the last", hand.bridges(2, 1), 4);
        hand.mend(2, LEVEL, 5);
        check.due("5 out, then none: 5 more by the second", hand.bridges(2, 1), 6);
        hand.mend(0, BANK, 30);
        check.due("fewest OVER is more than least LEVEL", hand.bridges(1, 0), 0);
        check.due("0 must go on", hand.bridges(1, 1), 5);
        leastLevelAheadOfFewestBridges();
    }

    /** BRIDGES 0 and 1 together lose 5 into the last, which is at 99; BRIDGE 2 loses nothing. */
    private static void leastLevelAheadOfFewestBridges() {
        RiverHand hand = Check.calm(99, 99, 1);
        hand.mend(1, LEVEL, 0);
        hand.mend(2, LEVEL, 99);
        hand.mend(2, GIFTS, 1);
        Check.law(hand, "g>0?0;b*5");
        check.due("0 and 1, not 2", hand.bridges(2, 1), 3);
    }

    private static void likeBridges() {
        check.says("which (bits; of like ones fewest, then the least).");
        RiverHand hand = Check.calm(99, 99, 99);
        check.due("all alike: none", hand.bridges(20, 1), 0);
        hand.mend(1, LEVEL, 99);
        hand.mend(2, LEVEL, 99);
        hand.mend(0, GIFTS, 1);
        hand.mend(1, GIFTS, 1);
        // 5 go from 0 by a BRIDGE, of which 1 has room for 2; 5 go from 1, for which 2 has no room.
        Check.law(hand, "g>0?b*5;0");
        hand.mend(1, LEVEL, 97);
        check.due("0 loses 3, 1 loses 5, both 5", hand.bridges(1, 1), 2);
        hand.mend(0, GIFTS, 0);
        hand.mend(2, GIFTS, 1);
        hand.mend(1, LEVEL, 99);
        check.due("1 loses 5, 2 loses 5, both 5: the least", hand.bridges(1, 1), 2);
        fewestThoughLater();
    }

    /** BRIDGES 0 and 1 together lose 5, as BRIDGE 2 alone does on the second day. */
    private static void fewestThoughLater() {
        RiverHand hand = Check.calm(99, 99, 1);
        hand.mend(1, LEVEL, 0);
        hand.mend(2, LEVEL, 99);
        hand.mend(2, GIFTS, 1);
        Check.law(hand, "g>0&d=0?0;b*5");
        check.due("4, not 3", hand.bridges(2, 1), 4);
    }

    private static void bridgesDays() {
        check.says("BRIDGES: how many (what 0), which (1). BAD.");
        RiverHand hand = bridged(99, 99);
        hand.mend(0, BRIDGE, 1);
        check.due("0 days: all alike", hand.bridges(0, 1), 0);
        check.due("20 days: 30 and 30 are out", hand.bridges(20, 1), 3);
        for (int what = 0; what <= 1; what++) {
            for (int n : new int[] {-1, 21, Integer.MIN_VALUE, Integer.MAX_VALUE}) {
                check.due("n " + n, hand.bridges(n, what), BAD);
            }
        }
        for (int what : new int[] {-1, 2, Integer.MIN_VALUE, Integer.MAX_VALUE}) {
            check.due("what " + what, hand.bridges(1, what), BAD);
        }
        check.due("the BRIDGE as it was", hand.of(0, BRIDGE), 1);
        check.due("DAY as it was", hand.of(0, DAY), 0);
    }
}
