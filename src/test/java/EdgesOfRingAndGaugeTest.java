/** The edges that the document names of the ring, gauges, answers, turns and draws: Terms 3 and 4; promises 16 to 22. */
public final class EdgesOfRingAndGaugeTest {
    private static final Check check = new Check();
    private static final int BAD = RiverHand.BAD, NOT = RiverHand.NOT, VOID = RiverHand.VOID;
    private static final long NONE = Long.MIN_VALUE;
    private static final int LEVEL = 0, BANK = 1, BRIDGE = 2, GIFTS = 3, RAIN = 4, SPRING = 5, DAY = 6;
    private static final int[] BEYOND_TWO = {-1, 2, 8, Integer.MIN_VALUE, Integer.MAX_VALUE};
    private static final int[] NO_SHELVES = {-1, 6, Integer.MIN_VALUE, Integer.MAX_VALUE};

    public static void main(String[] args) {
        fiveOrMore();
        ofLevelAsTheDayBegins();
        goneBehindTheLast();
        ringDays();
        goneWithinSixty();
        ring();
        gaugeFromNow();
        notRead();
        fortyOneCount();
        judged();
        judge();
        gaugeBytes();
        rains();
        rainsLeast();
        rainsOfDayNumber();
        levels();
        levelsLeast();
        levelsOfReachNumber();
        span();
        fits();
        fitsRefused();
        twos();
        twentyTwos();
        endsWithNoSuch();
        alikeLikelyAhead();
        heardWhenAsked();
        notAskedSaysNothing();
        lowestTerms();
        hears();
        odd();
        fewest();
        oddRefused();
        turns();
        byTurnsEveryOther();
        throwsHeld();
        takesHeld();
        daysBehindTurns();
        bothDoTheirBest();
        firstOfLikeOnes();
        byTurns();
        years();
        yearsFromNow();
        draws();
        wet();
        drawnOver();
        drawnOfAll();
        drawn();
        check.finish();
    }

    private static void fiveOrMore() {
        check.says("each day it goes to the next one, if 5 or more go from that one");
        RiverHand hand = Check.calm(99, 99, 99);
        Check.law(hand, "4");
        check.due("4 go", hand.ring(0, 1), 0);
        Check.law(hand, "5");
        check.due("5 go", hand.ring(0, 1), 1);
        Check.law(hand, "6");
        check.due("6 go", hand.ring(0, 1), 1);
        check.due("one a day", hand.ring(0, 2), 2);
        hand.mend(0, LEVEL, 4);
        check.due("6 told, 4 there", hand.ring(0, 1), 0);
        hand.mend(0, LEVEL, 5);
        check.due("6 told, 5 there", hand.ring(0, 1), 1);
    }

    private static void ofLevelAsTheDayBegins() {
        check.says("(of LEVEL as the day begins)");
        RiverHand hand = Check.calm(99, 99);
        hand.mend(0, SPRING, 5);
        Check.law(hand, "l>34?5;0");
        check.due("30 as it begins, 35 behind it", hand.ring(0, 1), 0);
        check.due("35 as it begins", hand.ring(0, 2), 1);
        // 36 as it begins, 31 behind it.
        hand.mend(0, SPRING, 0);
        hand.mend(0, LEVEL, 36);
        check.due("36 as it begins", hand.ring(0, 1), 1);
        // From that one, not from where it goes to.
        hand.mend(0, LEVEL, 10);
        hand.mend(1, LEVEL, 50);
        check.due("the next one's go counts not", hand.ring(0, 1), 0);
    }

    private static void goneBehindTheLast() {
        check.says("behind the last it is gone: where it is behind n (0 .. 60) days (8: gone)");
        RiverHand hand = Check.calm(99);
        Check.law(hand, "5");
        check.due("in the only one", hand.ring(0, 0), 0);
        check.due("gone", hand.ring(0, 1), 8);
        check.due("gone still", hand.ring(0, 60), 8);
        RiverHand full = Check.calm(99, 99, 99, 99, 99, 99, 99, 99);
        Check.law(full, "5");
        check.due("in the eighth", full.ring(0, 7), 7);
        check.due("gone behind the eighth", full.ring(0, 8), 8);
    }

    private static void ringDays() {
        check.says("where it is behind n (0 .. 60) days");
        RiverHand hand = Check.calm(99, 99);
        hand.mend(0, SPRING, 1);
        hand.mend(0, LEVEL, 0);
        Check.law(hand, "l>58?5;0");
        check.due("0 days", hand.ring(1, 0), 1);
        check.due("59 days", hand.ring(0, 59), 0);
        check.due("60 days", hand.ring(0, 60), 1);
        check.due("61 days", hand.ring(0, 61), BAD);
        check.due("-2 days", hand.ring(0, -2), BAD);
        check.due("the most", hand.ring(0, Integer.MAX_VALUE), BAD);
        check.due("the least", hand.ring(0, Integer.MIN_VALUE), BAD);
    }

    private static void goneWithinSixty() {
        check.says("when it is gone (NOT within 60)");
        RiverHand hand = Check.calm(99);
        Check.law(hand, "5");
        check.due("at once, behind one day", hand.ring(0, -1), 1);
        hand.mend(0, SPRING, 1);
        hand.mend(0, LEVEL, 0);
        Check.law(hand, "l>58?5;0");
        check.due("behind 60", hand.ring(0, -1), 60);
        Check.law(hand, "l>59?5;0");
        check.due("behind 61", hand.ring(0, -1), NOT);
        Check.law(hand, "0");
        check.due("never", hand.ring(0, -1), NOT);
    }

    private static void ring() {
        check.says("RING let into a REACH: where it is behind n days (8: gone); when it is gone (n -1; NOT). BAD.");
        RiverHand hand = Check.calm(99, 99);
        for (int reach : BEYOND_TWO) {
            check.due("reach " + reach, hand.ring(reach, 0), BAD);
            check.due("reach " + reach + ", when", hand.ring(reach, -1), BAD);
        }
        check.due("the last", hand.ring(1, 60), 1);
    }

    private static void gaugeFromNow() {
        check.says("LEVEL of one behind 0, 1, 2 .. days");
        RiverHand hand = Check.calm(99, 99);
        hand.mend(0, SPRING, 2);
        Check.bytes(hand, 0, 30, 32, 34);
        check.due("so", hand.judge(0, 0), NOT);
        Check.bytes(hand, 0, 32, 34, 36);
        check.due("not from the first day on", hand.judge(0, 0), 0);
        Check.bytes(hand, 0, 30, 30, 30);
        check.due("of the other", hand.judge(0, 1), NOT);
        check.due("of this one", hand.judge(0, 0), 1);
    }

    private static void notRead() {
        check.says("(100: not read; 41 at most count)");
        RiverHand hand = Check.calm(99);
        Check.bytes(hand, 0, 100, 100, 30);
        check.due("100", hand.judge(0, 0), NOT);
        Check.bytes(hand, 0, 100, 101, 30);
        check.due("101 is read", hand.judge(0, 0), 1);
        Check.bytes(hand, 0, 100, 30, 127);
        check.due("127 is read", hand.judge(0, 0), 2);
        Check.bytes(hand, 0, -100);
        check.due("-100 is read", hand.judge(0, 0), 0);
        hand.mend(0, LEVEL, 99);
        Check.bytes(hand, 0, 99);
        check.due("99 is read", hand.judge(0, 0), NOT);
        hand.mend(0, LEVEL, 0);
        check.due("99 is not so", hand.judge(0, 0), 0);
        Check.bytes(hand, 0, 0);
        check.due("0 is read", hand.judge(0, 0), NOT);
    }

    private static void fortyOneCount() {
        check.says("41 at most count");
        RiverHand hand = Check.calm(99);
        hand.row(0, 0, 60);
        for (int i = 0; i < 60; i++) {
            hand.put(0, i, i <= 40 ? 30 : 31);
        }
        check.due("the 42nd counts not", hand.judge(0, 0), NOT);
        check.due("all RAINS of a DAY but 0", hand.fits(0, 0, 0, 0), 1);
        hand.put(0, 40, 31);
        check.due("the 41st counts", hand.judge(0, 0), 40);
        check.due("no RAIN", hand.fits(0, 0, 0, 0), 0);
        hand.put(0, 40, 30);
        hand.put(0, 39, 31);
        check.due("the 40th counts", hand.judge(0, 0), 39);
    }

    private static void judged() {
        check.says("JUDGED: the first that is not so; NOT.");
        RiverHand hand = Check.calm(99);
        Check.bytes(hand, 0);
        check.due("no readings", hand.judge(0, 0), NOT);
        Check.bytes(hand, 0, 30);
        check.due("one", hand.judge(0, 0), NOT);
        Check.bytes(hand, 0, 30, 29, 31);
        check.due("the first of two", hand.judge(0, 0), 1);
        Check.bytes(hand, 0, 29);
        check.due("at once", hand.judge(0, 0), 0);
    }

    private static void judge() {
        check.says("JUDGED. BAD, -11, -12 (no ROW of bytes); NOT.");
        RiverHand hand = Check.calm(99, 99);
        Check.bytes(hand, 0, 30);
        for (int shelf : NO_SHELVES) {
            check.due("shelf " + shelf, hand.judge(shelf, 0), BAD);
        }
        for (int reach : BEYOND_TWO) {
            check.due("reach " + reach, hand.judge(0, reach), BAD);
            check.due("reach " + reach + ", nothing there", hand.judge(1, reach), BAD);
        }
        check.due("nothing there", hand.judge(5, 0), -11);
        for (int sort = 1; sort <= 4; sort++) {
            hand.row(1, sort, 1);
            check.due("sort " + sort, hand.judge(1, 0), -12);
            check.due("sort " + sort + ", reach 2", hand.judge(1, 2), BAD);
        }
        hand.body(0);
        hand.keep(1, 0);
        check.due("a STEP", hand.judge(1, 0), -12);
    }

    private static void gaugeBytes() {
        check.says("GAUGE: a ROW of bytes on a SHELF");
        RiverHand hand = Check.calm(99);
        hand.row(0, 0, 1);
        hand.put(0, 0, 256 + 30);
        check.due("its lowest bits are 30", hand.judge(0, 0), NOT);
        hand.put(0, 0, 30 - 256);
        check.due("its lowest bits are 30", hand.judge(0, 0), NOT);
        hand.put(0, 0, 128);
        check.due("-128", hand.judge(0, 0), 0);
    }

    private static void rains() {
        check.says("RAINS: by how many RAINS (0 .. 9) of a told DAY all is so");
        RiverHand hand = Check.calm(99);
        Check.bytes(hand, 0, 30, 39);
        check.due("9 alone", hand.fits(0, 0, 0, 0), 1);
        Check.bytes(hand, 0, 30, 40);
        check.due("10 is none", hand.fits(0, 0, 0, 0), 0);
        Check.bytes(hand, 0, 30, 30);
        check.due("0 alone", hand.fits(0, 0, 0, 0), 1);
        check.due("of DAY 6: all", hand.fits(0, 0, 6, 0), 10);
        hand.mend(0, DAY, 6);
        check.due("of DAY 6 today: one", hand.fits(0, 0, 6, 0), 1);
        check.due("of DAY 0: all", hand.fits(0, 0, 0, 0), 10);
        check.due("of DAY 7", hand.fits(0, 0, 7, 0), BAD);
        check.due("of DAY -1", hand.fits(0, 0, -1, 0), BAD);
        Check.bytes(hand, 0);
        check.due("no readings", hand.fits(0, 0, 6, 0), 10);
        Check.bytes(hand, 0, 29);
        check.due("not so now", hand.fits(0, 0, 0, 0), 0);
        hand.mend(0, LEVEL, 95);
        Check.bytes(hand, 0, 95, 99);
        check.due("4 to 9", hand.fits(0, 0, 6, 0), 6);
        check.due("RAIN as it was", hand.of(6, RAIN), 0);
    }

    private static void rainsLeast() {
        check.says("of a told DAY all is so; the least (NOT).");
        RiverHand hand = Check.calm(99);
        Check.bytes(hand, 0, 30, 39);
        check.due("9", hand.fits(0, 0, 0, 1), 9);
        Check.bytes(hand, 0, 30, 30);
        check.due("0", hand.fits(0, 0, 0, 1), 0);
        Check.bytes(hand, 0, 30, 40);
        check.due("none", hand.fits(0, 0, 0, 1), NOT);
        hand.mend(0, LEVEL, 95);
        Check.bytes(hand, 0, 95, 99);
        check.due("the least of 4 to 9", hand.fits(0, 0, 0, 1), 4);
    }

    private static void rainsOfDayNumber() {
        check.says("RAINS of DAY number: how many (what 0), the least (1; NOT)");
        RiverHand hand = Check.calm(99);
        hand.mend(2, RAIN, 9);
        // 3 more on DAY 1, and 9 on DAY 2, as told.
        Check.bytes(hand, 0, 100, 100, 33, 42);
        check.due("of DAY 1, how many", hand.fits(0, 0, 1, 0), 1);
        check.due("of DAY 1, the least", hand.fits(0, 0, 1, 1), 3);
        check.due("of DAY 2, how many", hand.fits(0, 0, 2, 0), 0);
        check.due("of DAY 2, the least", hand.fits(0, 0, 2, 1), NOT);
    }

    private static void levels() {
        check.says("LEVELS: by how many LEVELS (0 .. 99) of a told REACH now");
        RiverHand hand = Check.calm(99, 99);
        Check.bytes(hand, 0, 100);
        check.due("all", hand.fits(0, 0, 0, 2), 100);
        check.due("all of the other", hand.fits(0, 0, 1, 2), 100);
        Check.bytes(hand, 0, 99);
        check.due("99 alone", hand.fits(0, 0, 0, 2), 1);
        check.due("none of the other", hand.fits(0, 0, 1, 2), 0);
        Check.bytes(hand, 0, 0);
        check.due("0 alone", hand.fits(0, 0, 0, 2), 1);
        Check.bytes(hand, 0, 101);
        check.due("none", hand.fits(0, 0, 0, 2), 0);
        Check.law(hand, "l/5");
        Check.bytes(hand, 0, 100, 30 + 7 - 6);
        check.due("35 to 39 of the one ahead", hand.fits(0, 1, 0, 2), 5);
        check.due("REACH 2", hand.fits(0, 0, 2, 2), BAD);
        check.due("REACH -1", hand.fits(0, 0, -1, 2), BAD);
        check.due("LEVEL as it was", hand.of(0, LEVEL), 30);
    }

    private static void levelsLeast() {
        check.says("of a told REACH now; the least (NOT).");
        RiverHand hand = Check.calm(99, 99);
        Check.bytes(hand, 0, 100);
        check.due("0", hand.fits(0, 0, 0, 3), 0);
        Check.bytes(hand, 0, 99);
        check.due("99", hand.fits(0, 0, 0, 3), 99);
        check.due("none of the other", hand.fits(0, 0, 1, 3), NOT);
    }

    private static void levelsOfReachNumber() {
        check.says("LEVELS of REACH number (2, 3)");
        RiverHand hand = Check.calm(99, 99);
        Check.law(hand, "l/5");
        Check.bytes(hand, 0, 100, 31);
        check.due("how many of 35 to 39", hand.fits(0, 1, 0, 2), 5);
        check.due("the least of 35 to 39", hand.fits(0, 1, 0, 3), 35);
        check.due("REACH 2", hand.fits(0, 0, 2, 3), BAD);
        check.due("REACH 6", hand.fits(0, 0, 6, 3), BAD);
    }

    private static void span() {
        check.says("SPAN: by which BRIDGE of a told REACH (bits 0, 1).");
        RiverHand hand = Check.calm(99, 99);
        Check.law(hand, "b*5");
        Check.bytes(hand, 0, 30, 30);
        check.due("without", hand.fits(0, 0, 0, 4), 1);
        Check.bytes(hand, 0, 30, 25);
        check.due("with", hand.fits(0, 0, 0, 4), 2);
        check.due("the other's: none", hand.fits(0, 0, 1, 4), 0);
        Check.bytes(hand, 0, 30, 26);
        check.due("none", hand.fits(0, 0, 0, 4), 0);
        Check.bytes(hand, 0, 30, 100);
        check.due("both", hand.fits(0, 0, 0, 4), 3);
        hand.build(0, 1);
        Check.bytes(hand, 0, 30, 30);
        check.due("without, though one stands", hand.fits(0, 0, 0, 4), 1);
        check.due("it stands still", hand.of(0, BRIDGE), 1);
        check.due("REACH 2", hand.fits(0, 0, 2, 4), BAD);
        check.due("REACH -1", hand.fits(0, 0, -1, 4), BAD);
    }

    private static void fits() {
        check.says("Of a GAUGE at a REACH: RAINS of DAY number");
        RiverHand hand = Check.calm(99, 99);
        hand.mend(1, LEVEL, 50);
        Check.bytes(hand, 0, 50, 53);
        check.due("at 1", hand.fits(0, 1, 0, 1), 3);
        check.due("at 0", hand.fits(0, 0, 0, 1), NOT);
        for (int reach : BEYOND_TWO) {
            for (int what = 0; what <= 4; what++) {
                check.due("at " + reach, hand.fits(0, reach, 0, what), BAD);
            }
        }
    }

    private static void fitsRefused() {
        check.says("LEVELS of REACH number (2, 3), SPAN of it (4: bits). BAD, -11, -12.");
        RiverHand hand = Check.calm(99, 99);
        Check.bytes(hand, 0, 30);
        hand.row(2, 1, 1);
        hand.body(0);
        hand.keep(3, 0);
        for (int what : new int[] {-1, 5, Integer.MIN_VALUE, Integer.MAX_VALUE}) {
            check.due("what " + what, hand.fits(0, 0, 0, what), BAD);
            check.due("what " + what + ", nothing there", hand.fits(1, 0, 0, what), BAD);
        }
        for (int what = 0; what <= 4; what++) {
            int none = what < 2 ? 7 : 2;
            for (int shelf : NO_SHELVES) {
                check.due("shelf " + shelf, hand.fits(shelf, 0, 0, what), BAD);
            }
            check.due("nothing there", hand.fits(1, 0, 0, what), -11);
            check.due("shorts", hand.fits(2, 0, 0, what), -12);
            check.due("a STEP", hand.fits(3, 0, 0, what), -12);
            check.due("no such number ahead of nothing there", hand.fits(1, 0, none, what), BAD);
            check.due("no such number ahead of shorts", hand.fits(2, 0, none, what), BAD);
            check.due("number far below", hand.fits(0, 0, Integer.MIN_VALUE, what), BAD);
            check.due("number far above", hand.fits(0, 0, Integer.MAX_VALUE, what), BAD);
            check.due("the last number", hand.fits(0, 0, none - 1, what) == BAD ? 1 : 0, 0);
        }
        for (int sort = 2; sort <= 4; sort++) {
            hand.row(2, sort, 1);
            check.due("sort " + sort, hand.fits(2, 0, 0, 0), -12);
        }
    }

    /** Answers on SHELF 5: how likely, as above and below the line, ODD and FEWEST. */
    private static void answers(RiverHand hand, long above, long below, int odd, int fewest) {
        check.due("above", hand.hears(5, 0), above);
        check.due("below", hand.hears(5, 1), below);
        check.due("ODD", hand.odd(5, 0), odd);
        check.due("FEWEST", hand.odd(5, 1), fewest);
    }

    private static void twos() {
        check.says("ANSWERS: a ROW of bytes: by twos whether it was asked on a day (1, 0), and its SIGN (0 .. 2;");
        RiverHand hand = new RiverHand();
        int[][] so = {{0, 0}, {0, 1}, {0, 2}, {1, 0}, {1, 1}, {1, 2}};
        int[][] due = {{1, 2, 0, 4}, {1, 2, -1, 4}, {1, 2, 0, 4}, {1, 3, 0, 5}, {2, 3, 1, 3}, {1, 3, 0, 5}};
        for (int i = 0; i < so.length; i++) {
            Check.bytes(hand, 5, so[i]);
            answers(hand, due[i][0], due[i][1], due[i][2], due[i][3]);
        }
    }

    private static void twentyTwos() {
        check.says("20 twos at most");
        RiverHand hand = new RiverHand();
        hand.row(5, 0, 60);
        for (int i = 0; i < 60; i++) {
            hand.put(5, i, 1);
        }
        answers(hand, 1 << 20, (1 << 20) + 1, 20, 0);
        hand.put(5, 39, 2);
        answers(hand, 1 << 18, (1 << 18) + 1, 19, 0);
        hand.put(5, 39, 1);
        hand.put(5, 41, 2);
        answers(hand, 1 << 20, (1 << 20) + 1, 20, 0);
        for (int i = 0; i < 30; i++) {
            hand.put(5, 2 * i + 1, 0);
        }
        answers(hand, 1, (1 << 20) + 1, 0, 24);
        for (int i = 0; i < 30; i++) {
            hand.put(5, 2 * i, 0);
            hand.put(5, 2 * i + 1, 1);
        }
        answers(hand, 1, 2, -20, 4);
    }

    private static void endsWithNoSuch() {
        check.says("it ends with what is no such)");
        RiverHand hand = new RiverHand();
        int[][] noSuch = {{2, 1}, {-1, 1}, {127, 1}, {-128, 1}, {1, 3}, {1, -1}, {0, 3}, {0, -1}, {1, 127}, {1, -128}};
        for (int[] two : noSuch) {
            Check.bytes(hand, 5, 1, 1, two[0], two[1], 1, 1, 0, 1);
            answers(hand, 2, 3, 1, 3);
        }
        Check.bytes(hand, 5, 2, 0, 1, 1);
        answers(hand, 1, 2, 0, 4);
        Check.bytes(hand, 5, 1, 1, 1);
        answers(hand, 2, 3, 1, 3);
        Check.bytes(hand, 5, 1);
        answers(hand, 1, 2, 0, 4);
    }

    private static void alikeLikelyAhead() {
        check.says("alike likely ahead");
        RiverHand hand = new RiverHand();
        Check.bytes(hand, 5);
        answers(hand, 1, 2, 0, 4);
    }

    private static void heardWhenAsked() {
        check.says("If it hears, it rises in 8 of twelve when it is asked, else in 4; if not, in 4 whether it is asked or not");
        RiverHand hand = new RiverHand();
        Check.bytes(hand, 5, 1, 1, 1, 1);
        answers(hand, 4, 5, 2, 2);
        Check.bytes(hand, 5, 1, 0, 1, 2);
        answers(hand, 1, 5, 0, 6);
        Check.bytes(hand, 5, 1, 0, 1, 1);
        answers(hand, 1, 2, 1, 4);
    }

    private static void notAskedSaysNothing() {
        check.says("one day apart from the other (not rising: the rest)");
        RiverHand hand = new RiverHand();
        Check.bytes(hand, 5, 0, 1, 0, 0, 0, 2, 1, 1, 0, 1);
        answers(hand, 2, 3, -1, 3);
        Check.bytes(hand, 5, 1, 2, 1, 0, 1, 1);
        answers(hand, 1, 3, 1, 5);
    }

    private static void lowestTerms() {
        check.says("how likely it hears: a fraction in lowest terms");
        RiverHand hand = new RiverHand();
        Check.bytes(hand, 5, 1, 1, 1, 0, 1, 1, 1, 2);
        answers(hand, 1, 2, 2, 4);
        Check.bytes(hand, 5, 1, 1, 1, 0, 1, 1);
        answers(hand, 2, 3, 2, 3);
    }

    private static void hears() {
        check.says("(part 0 above, 1 below the line). Long.MIN_VALUE: BAD, no ROW of bytes.");
        RiverHand hand = new RiverHand();
        Check.bytes(hand, 0, 1, 1);
        hand.body(0);
        hand.keep(2, 0);
        for (int part = 0; part <= 1; part++) {
            for (int shelf : NO_SHELVES) {
                check.due("shelf " + shelf, hand.hears(shelf, part), NONE);
            }
            check.due("nothing", hand.hears(1, part), NONE);
            check.due("a STEP", hand.hears(2, part), NONE);
            for (int sort = 1; sort <= 4; sort++) {
                hand.row(3, sort, 2);
                check.due("sort " + sort, hand.hears(3, part), NONE);
            }
        }
        for (int part : new int[] {-1, 2, Integer.MIN_VALUE, Integer.MAX_VALUE}) {
            check.due("part " + part, hand.hears(0, part), NONE);
        }
        check.due("above", hand.hears(0, 0), 2);
        check.due("below", hand.hears(0, 1), 3);
    }

    private static void odd() {
        check.says("ODD: how many rises on days asked less those on others");
        RiverHand hand = new RiverHand();
        Check.bytes(hand, 5, 1, 1, 1, 1, 0, 1, 1, 0, 1, 2, 0, 2, 0, 0);
        check.due("2 less 1", hand.odd(5, 0), 1);
        Check.bytes(hand, 5, 0, 1, 0, 1, 1, 1);
        check.due("1 less 2", hand.odd(5, 0), -1);
        Check.bytes(hand, 5);
        check.due("none", hand.odd(5, 0), 0);
    }

    private static void fewest() {
        check.says("FEWEST: how many more rises when asked, one behind the other, would make it 11 of twelve or more");
        RiverHand hand = new RiverHand();
        // By 3 rises more than not 8 of nine, by 4 16 of seventeen.
        for (int rises = 0; rises <= 6; rises++) {
            hand.row(5, 0, 2 * rises);
            for (int i = 0; i < 2 * rises; i++) {
                hand.put(5, i, 1);
            }
            check.due("behind " + rises, hand.odd(5, 1), Math.max(0, 4 - rises));
        }
        hand.row(5, 0, 40);
        for (int i = 0; i < 20; i++) {
            hand.put(5, 2 * i, 1);
        }
        check.due("behind 20 that are none", hand.odd(5, 1), 24);
    }

    private static void oddRefused() {
        check.says("ODD (what 0), FEWEST (1). VOID: BAD, no ROW of bytes.");
        RiverHand hand = new RiverHand();
        Check.bytes(hand, 0, 1, 1);
        hand.body(0);
        hand.keep(2, 0);
        for (int what = 0; what <= 1; what++) {
            for (int shelf : NO_SHELVES) {
                check.due("shelf " + shelf, hand.odd(shelf, what), VOID);
            }
            check.due("nothing", hand.odd(1, what), VOID);
            check.due("a STEP", hand.odd(2, what), VOID);
            for (int sort = 1; sort <= 4; sort++) {
                hand.row(3, sort, 2);
                check.due("sort " + sort, hand.odd(3, what), VOID);
            }
        }
        for (int what : new int[] {-1, 2, Integer.MIN_VALUE, Integer.MAX_VALUE}) {
            check.due("what " + what, hand.odd(0, what), VOID);
        }
        check.due("VOID", VOID, -2000000000);
    }

    private static void turns() {
        check.says("BY TURNS: two towns, n (1 .. 5) times in all");
        RiverHand hand = Check.calm(99, 99);
        int[] due = {9, 0, 9, 0, 9};
        for (int n = 1; n <= 5; n++) {
            check.due("n " + n, hand.byTurns(1, 100 * n, 0), due[n - 1]);
        }
        check.due("n 0", hand.byTurns(1, 0, 0), VOID);
        check.due("n 0, t 20", hand.byTurns(1, 20, 0), VOID);
        check.due("n 6", hand.byTurns(1, 600, 0), VOID);
    }

    private static void byTurnsEveryOther() {
        check.says("the first one first, each at its REACH");
        RiverHand hand = Check.calm(99, 99, 99);
        hand.mend(0, LEVEL, 40);
        check.due("0 first", hand.byTurns(2, 100, 0), 19);
        check.due("2 first", hand.byTurns(20, 100, 0), -1);
        check.due("1 has no part", hand.byTurns(2, 500, 0), 19);
    }

    private static void throwsHeld() {
        check.says("it throws 9 in there (99 at most)");
        RiverHand hand = Check.calm(99, 99);
        hand.mend(0, LEVEL, 90);
        check.due("90 to 99", hand.byTurns(1, 100, 0), 69);
        hand.mend(0, LEVEL, 91);
        check.due("91 to 99", hand.byTurns(1, 100, 0), 69);
        hand.mend(0, LEVEL, 99);
        check.due("99 to 99", hand.byTurns(1, 100, 0), 69);
    }

    private static void takesHeld() {
        check.says("or takes 9 out (0 at least), or nothing");
        RiverHand hand = Check.calm(99, 99);
        // What is in the first one comes to the other: the less the better.
        Check.law(hand, "n>0|g?l;0");
        hand.mend(1, GIFTS, 0);
        hand.mend(1, LEVEL, 1);
        hand.mend(0, LEVEL, 15);
        check.due("6 come to the other: -7", hand.byTurns(1, 101, 0), -7);
        check.due("takes", hand.byTurns(1, 101, 1), 1);
        hand.mend(0, LEVEL, 9);
        check.due("none comes to it", hand.byTurns(1, 101, 0), -1);
        hand.mend(0, LEVEL, 5);
        check.due("0 at least", hand.byTurns(1, 101, 0), -1);
        check.due("takes", hand.byTurns(1, 101, 1), 1);
        hand.mend(0, LEVEL, 0);
        check.due("nothing to take", hand.byTurns(1, 101, 0), -1);
        check.due("nothing", hand.byTurns(1, 101, 1), 2);
    }

    private static void daysBehindTurns() {
        check.says("behind them t (0 .. 20) days");
        RiverHand hand = Check.calm(99, 99);
        hand.mend(0, SPRING, 1);
        check.due("t 0", hand.byTurns(1, 100, 0), 9);
        check.due("t 1", hand.byTurns(1, 101, 0), 10);
        check.due("t 20", hand.byTurns(1, 120, 0), 29);
        check.due("t 21", hand.byTurns(1, 121, 0), VOID);
        check.due("t 99", hand.byTurns(1, 199, 0), VOID);
        check.due("n 5, t 20", hand.byTurns(1, 520, 0), 29);
        check.due("n 5, t 21", hand.byTurns(1, 521, 0), VOID);
    }

    private static void bothDoTheirBest() {
        check.says("the first one wants LEVEL of its own less that of the other's most: that, if both do their best");
        RiverHand hand = Check.calm(99, 99);
        // 20 go from one that is not at 30: nothing is best for the first; and then for the other, too.
        Check.law(hand, "l=30?0;20");
        check.due("both nothing", hand.byTurns(1, 201, 0), 0);
        check.due("first nothing", hand.byTurns(1, 201, 1), 2);
        // The other would lose what is at 39, so the first must look ahead: it cannot mend that.
        Check.law(hand, "l=39?20;0");
        check.due("taking 9 is worse than nothing", hand.byTurns(1, 101, 0), 0);
        check.due("first nothing", hand.byTurns(1, 101, 1), 2);
        check.due("the other throws not, either", hand.byTurns(1, 201, 0), 0);
        Check.law(hand, "0");
        hand.mend(0, LEVEL, 99);
        check.due("the other throws behind nothing", hand.byTurns(1, 200, 0), 99 - 39);
        check.due("first nothing", hand.byTurns(1, 200, 1), 2);
    }

    private static void firstOfLikeOnes() {
        check.says("the first one's first (0 throws, 1 takes, 2 nothing; of like ones 2 first, then the least)");
        RiverHand hand = Check.calm(99, 99);
        check.due("throws", hand.byTurns(1, 100, 1), 0);
        hand.mend(0, LEVEL, 99);
        check.due("throws or nothing: nothing", hand.byTurns(1, 100, 1), 2);
        Check.law(hand, "l=99?20;0");
        check.due("takes: throwing and nothing lose 20", hand.byTurns(1, 101, 1), 1);
        throwsAheadOfTaking();
    }

    /** From 50 all goes; from 59 and from 41 just so much that 40 are left. */
    private static void throwsAheadOfTaking() {
        RiverHand hand = Check.calm(99, 99);
        hand.mend(1, LEVEL, 50);
        Check.law(hand, "l=50?20;l=59?19;l=41?1;0");
        check.due("40 less 30", hand.byTurns(10, 101, 0), 10);
        check.due("throws ahead of takes", hand.byTurns(10, 101, 1), 0);
    }

    private static void byTurns() {
        check.says("BY TURNS (ab: 10 times the first one's REACH, and the other's, unlike; nt: 100 n, and t): that (what 0), the first one's first (1). VOID: BAD.");
        RiverHand hand = Check.calm(99, 99);
        for (int what = 0; what <= 1; what++) {
            for (int ab : new int[] {0, 11, 2, 20, 12, 21, 22, 9, 100, 101, -1, -10, Integer.MIN_VALUE, Integer.MAX_VALUE}) {
                check.due("ab " + ab, hand.byTurns(ab, 100, what), VOID);
            }
            for (int nt : new int[] {-1, -100, 99, 10000, Integer.MIN_VALUE, Integer.MAX_VALUE}) {
                check.due("nt " + nt, hand.byTurns(1, nt, what), VOID);
            }
        }
        for (int what : new int[] {-1, 2, Integer.MIN_VALUE, Integer.MAX_VALUE}) {
            check.due("what " + what, hand.byTurns(1, 100, what), VOID);
        }
        RiverHand full = Check.calm(99, 99, 99, 99, 99, 99, 99, 99);
        check.due("7 and 0", full.byTurns(70, 100, 0), 9);
        check.due("6 and 7", full.byTurns(67, 100, 0), 9);
        check.due("7 and 8", full.byTurns(78, 100, 0), VOID);
        check.due("8 and 7", full.byTurns(87, 100, 0), VOID);
    }

    private static void years() {
        check.says("DRAWN: n years (1 .. 30) of m (1 .. 60) days from now by a SEED");
        RiverHand hand = Check.calm(1);
        check.due("1 year of 1 day", hand.drawn(0, 10100, 0), 1);
        check.due("30 years of 60 days", hand.drawn(0, 306000, 0), 1800);
        check.due("30 years of 1 day", hand.drawn(0, 300100, 0), 30);
        check.due("1 year of 60 days", hand.drawn(0, 16000, 0), 60);
        check.due("0 years", hand.drawn(0, 100, 0), BAD);
        check.due("31 years", hand.drawn(0, 310100, 0), BAD);
        check.due("0 days", hand.drawn(0, 10000, 0), BAD);
        check.due("61 days", hand.drawn(0, 16100, 0), BAD);
    }

    private static void yearsFromNow() {
        check.says("days from now by a SEED");
        RiverHand hand = Check.calm(33);
        hand.mend(0, SPRING, 1);
        check.due("from the third day on, each year", hand.drawn(0, 30500, 0), 9);
        Check.law(hand, "d=4?20;0");
        hand.mend(0, DAY, 3);
        // 31 behind DAY 3, then 12, 13: never OVER.
        check.due("from DAY 3 on", hand.drawn(0, 20300, 0), 0);
        hand.mend(0, DAY, 5);
        check.due("from DAY 5 on", hand.drawn(0, 20300, 0), 2);
    }

    /** z = 0 * .. + 12345 at first: 12345 >>> 8 is 48, 12345 >>> 16 is 0: RAIN 8 if WET is 1 or more. */
    private static void draws() {
        check.says("z = z * 1103515245 + 12345 (an int; SEED at first) ahead of each day: RAIN of that day is (z >>> 8) % 10");
        RiverHand hand = Check.calm(38);
        check.due("8 by SEED 0", hand.drawn(0, 10101, 0), 1);
        hand.mend(0, BANK, 39);
        check.due("not 9", hand.drawn(0, 10101, 0), 0);
        // SEED -1: z is -1103502900, as a number of 32 bits 3191464396; by 256 that is 12466657: RAIN 7.
        hand.mend(0, BANK, 37);
        check.due("7 by z below 0", hand.drawn(-1, 10112, 0), 1);
        hand.mend(0, BANK, 38);
        check.due("not 8", hand.drawn(-1, 10112, 0), 0);
        seeds(hand);
    }

    /** Three years of two weeks by long numbers, cut to 32 bits by hand; z goes on from year to year. */
    private static void seeds(RiverHand hand) {
        hand.mend(0, LEVEL, 0);
        hand.mend(0, BANK, 20);
        for (int seed : new int[] {0, 1, -1, 77, Integer.MAX_VALUE, Integer.MIN_VALUE, 123456789, -987654321}) {
            long z = seed & 0xFFFFFFFFL;
            int level = 0;
            int often = 0;
            for (int i = 0; i < 3 * 14; i++) {
                level = i % 14 == 0 ? 0 : level;
                z = z * 1103515245L + 12345L & 0xFFFFFFFFL;
                level = Math.min(99, level + ((z >> 16) % 12 < 6 ? (int) ((z >> 8) % 10) : 0));
                often += level >= 20 ? 1 : 0;
            }
            check.due("SEED " + seed, hand.drawn(seed, 31406, 0), often);
        }
    }

    private static void wet() {
        check.says("if (z >>> 16) % 12 is below WET (0 .. 12, told), else 0");
        RiverHand hand = Check.calm(31);
        hand.mend(0, RAIN, 9);
        // By SEED 0 (z >>> 16) % 12 is 0, and 8 are drawn.
        check.due("WET 0: no RAIN, told RAIN neither", hand.drawn(0, 10100, 0), 0);
        check.due("WET 1", hand.drawn(0, 10101, 0), 1);
        check.due("WET 12", hand.drawn(0, 10112, 0), 1);
        check.due("WET 13", hand.drawn(0, 10113, 0), BAD);
        check.due("WET 99", hand.drawn(0, 10199, 0), BAD);
        // By SEED -1 it is 48697 % 12, which is 1.
        check.due("1 is not below WET 1", hand.drawn(-1, 10101, 0), 0);
        check.due("1 is below WET 2", hand.drawn(-1, 10102, 0), 1);
        check.due("RAIN as it was", hand.of(0, RAIN), 9);
        Check.law(hand, "r=8?20;0");
        hand.mend(0, BANK, 18);
        check.due("the LAW goes by what is drawn: 30 + 8 - 20", hand.drawn(0, 10101, 0), 1);
        hand.mend(0, BANK, 19);
        check.due("18 is not OVER", hand.drawn(0, 10101, 0), 0);
    }

    private static void drawnOver() {
        check.says("how often a REACH is OVER behind the days, all days together");
        RiverHand hand = Check.calm(30, 31);
        check.due("each day", hand.drawn(0, 20300, 0), 6);
        check.due("no day", hand.drawn(0, 20300, 1), 0);
        hand.mend(1, BANK, 30);
        check.due("each day, the last", hand.drawn(0, 20300, 1), 6);
        hand.mend(0, SPRING, 1);
        hand.mend(0, BANK, 32);
        check.due("behind, not ahead: days 2 and 3", hand.drawn(0, 20300, 0), 4);
    }

    private static void drawnOfAll() {
        check.says("how many REACHES are OVER, all days together");
        RiverHand hand = Check.calm(30, 31, 30);
        check.due("two each day", hand.drawn(0, 20300, -1), 12);
        RiverHand all = Check.calm(1, 1, 1, 1, 1, 1, 1, 1);
        check.due("the most", all.drawn(0, 306000, -1), 14400);
    }

    private static void drawn() {
        check.says("DRAWN (nmw: 10000 n, 100 m, and WET): how often one is OVER, all (reach -1). BAD.");
        RiverHand hand = Check.calm(60, 60);
        for (int reach : new int[] {-2, 2, 8, Integer.MIN_VALUE, Integer.MAX_VALUE}) {
            check.due("reach " + reach, hand.drawn(0, 10100, reach), BAD);
        }
        for (int nmw : new int[] {-1, 0, 12, 112, 9912, -10101, 1000000, Integer.MIN_VALUE, Integer.MAX_VALUE}) {
            check.due("nmw " + nmw, hand.drawn(0, nmw, 0), BAD);
            check.due("nmw " + nmw + " of all", hand.drawn(0, nmw, -1), BAD);
        }
        check.due("the most nmw", hand.drawn(0, 306012, 0) >= 0 ? 1 : 0, 1);
    }
}
