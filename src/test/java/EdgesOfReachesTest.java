/** The edges that the document names of REACHES and a DAY: Terms 1, and 5 of rows; promises 1 to 5 and 8. */
public final class EdgesOfReachesTest {
    private static final Check check = new Check();
    private static final int BAD = RiverHand.BAD;
    private static final int LEVEL = 0, BANK = 1, BRIDGE = 2, GIFTS = 3, RAIN = 4, SPRING = 5, DAY = 6;

    public static void main(String[] args) {
        reachesByNumber();
        level();
        bank();
        bankOfReach();
        bridge();
        gifts();
        rain();
        spring();
        springForTheFirstAlone();
        dayOfTheWeek();
        asTheDayBegins();
        rainForEach();
        lessByWhatGoes();
        withinAtOnce();
        dayBehindSix();
        overAtBank();
        signs();
        newObject();
        reach();
        reachesHowMany();
        reachesOfOtherKinds();
        reachesMissing();
        rowEnds();
        oneIsNotSo();
        reachesAreFull();
        threes();
        mend();
        mendNumberOfBoth();
        mendNoSuchNumber();
        of();
        goes();
        goesWithoutText();
        fiveHundredAndTwelve();
        memoryOfItsOwn();
        check.finish();
    }

    /** A number's first value, its least and its most, and that the ones beyond are BAD and change nothing. */
    private static void range(RiverHand hand, int number, int what, int... firstLeastMost) {
        check.due("at first", hand.of(number, what), firstLeastMost[0]);
        check.due("to the most", hand.mend(number, what, firstLeastMost[2]), firstLeastMost[0]);
        check.due("is the most", hand.of(number, what), firstLeastMost[2]);
        check.due("above the most", hand.mend(number, what, firstLeastMost[2] + 1), BAD);
        check.due("is the most still", hand.of(number, what), firstLeastMost[2]);
        check.due("to the least", hand.mend(number, what, firstLeastMost[1]), firstLeastMost[2]);
        check.due("is the least", hand.of(number, what), firstLeastMost[1]);
        check.due("below the least", hand.mend(number, what, firstLeastMost[1] - 1), BAD);
        check.due("far above", hand.mend(number, what, Integer.MAX_VALUE), BAD);
        check.due("far below", hand.mend(number, what, Integer.MIN_VALUE), BAD);
        check.due("is the least still", hand.of(number, what), firstLeastMost[1]);
    }

    private static void reachesByNumber() {
        check.says("7, as they come, downstream");
        RiverHand hand = new RiverHand();
        for (int i = 0; i <= 7; i++) {
            check.due("reach " + i, hand.reach(90 + i), i);
        }
        for (int i = 0; i <= 7; i++) {
            check.due("BANK of " + i, hand.of(i, BANK), 90 + i);
        }
        check.due("no REACH 8", hand.of(8, BANK), BAD);
        hand.mend(3, LEVEL, 50);
        hand.mend(0, SPRING, 0);
        Check.law(hand, "l>40?10;0");
        check.due("what goes from 3 comes to 4", hand.later(1, 4, 0), 40);
        check.due("and not to 2", hand.later(1, 2, 0), 30);
    }

    private static void level() {
        check.says("LEVEL (0 .. 99; 30 at first)");
        range(Check.river(60), 0, LEVEL, 30, 0, 99);
    }

    private static void bank() {
        check.says("BANK (1 .. 99; 60 at first)");
        range(Check.river(60), 0, BANK, 60, 1, 99);
    }

    private static void bankOfReach() {
        check.says("BANK (1 .. 99;");
        RiverHand hand = new RiverHand();
        check.due("0", hand.reach(0), BAD);
        check.due("100", hand.reach(100), BAD);
        check.due("-1", hand.reach(-1), BAD);
        check.due("the least int", hand.reach(Integer.MIN_VALUE), BAD);
        check.due("the most int", hand.reach(Integer.MAX_VALUE), BAD);
        check.due("1", hand.reach(1), 0);
        check.due("99", hand.reach(99), 1);
    }

    private static void bridge() {
        check.says("BRIDGE (0, 1; 0 at first)");
        range(Check.river(60), 0, BRIDGE, 0, 0, 1);
    }

    private static void gifts() {
        check.says("GIFTS (0 .. 9; 0 at first)");
        range(Check.river(60), 0, GIFTS, 0, 0, 9);
    }

    private static void rain() {
        check.says("RAIN of each DAY of the week 0 .. 6 (0 .. 9; 0 at first)");
        RiverHand hand = new RiverHand();
        for (int day = 0; day <= 6; day++) {
            range(hand, day, RAIN, 0, 0, 9);
            hand.mend(day, RAIN, 1 + day);
        }
        for (int day = 0; day <= 6; day++) {
            check.due("of its own DAY", hand.of(day, RAIN), 1 + day);
        }
        check.due("DAY 7", hand.mend(7, RAIN, 1), BAD);
        check.due("DAY -1", hand.mend(-1, RAIN, 1), BAD);
    }

    private static void spring() {
        check.says("SPRING (0 .. 9: what comes into the first REACH each day besides; 3 at first)");
        range(new RiverHand(), 0, SPRING, 3, 0, 9);
    }

    private static void springForTheFirstAlone() {
        check.says("by what goes to it from the one ahead (the first: SPRING)");
        RiverHand hand = Check.calm(60, 60, 60);
        hand.mend(0, SPRING, 9);
        check.due("the first", hand.later(1, 0, 0), 39);
        check.due("the second", hand.later(1, 1, 0), 30);
        check.due("the last", hand.later(1, 2, 0), 30);
        hand.mend(0, SPRING, 0);
        check.due("the first without", hand.later(1, 0, 0), 30);
    }

    private static void dayOfTheWeek() {
        check.says("DAY (0 .. 6; 0 at first)");
        range(new RiverHand(), 0, DAY, 0, 0, 6);
    }

    private static void asTheDayBegins() {
        check.says("A DAY, all as they stand when it begins");
        RiverHand hand = Check.river(99, 99);
        hand.mend(0, LEVEL, 10);
        hand.mend(1, LEVEL, 8);
        Check.law(hand, "l");
        check.due("10 + 3 - 10", hand.later(1, 0, 0), 3);
        check.due("8 + 10 - 8, not what came in, too", hand.later(1, 1, 0), 10);
        Check.law(hand, "n");
        check.due("10 + 3 - 8", hand.later(1, 0, 0), 5);
        check.due("8 + 8 - 0", hand.later(1, 1, 0), 16);
        Check.law(hand, "n=0?4;n");
        check.due("10 + 3 - 8, though 4 go from the next one, too", hand.later(1, 0, 0), 5);
        check.due("8 + 8 - 4", hand.later(1, 1, 0), 12);
        hand.mend(0, RAIN, 7);
        Check.law(hand, "d+r");
        check.due("by DAY 0 and its RAIN: 10 + 7 + 3 - 7", hand.later(1, 0, 0), 13);
    }

    private static void rainForEach() {
        check.says("LEVEL of each is more by RAIN of the DAY");
        RiverHand hand = Check.calm(99, 99, 99);
        hand.mend(0, RAIN, 9);
        hand.mend(1, RAIN, 2);
        hand.mend(6, RAIN, 4);
        for (int reach = 0; reach <= 2; reach++) {
            check.due("of DAY 0", hand.later(1, reach, 0), 39);
            check.due("of DAY 1", hand.later(2, reach, 0), 41);
        }
        hand.mend(0, DAY, 6);
        check.due("of DAY 6", hand.later(1, 2, 0), 34);
    }

    private static void lessByWhatGoes() {
        check.says("and less by what goes from it");
        RiverHand hand = Check.calm(99, 99);
        Check.law(hand, "n>0?9;4");
        check.due("30 - 9", hand.later(1, 0, 0), 21);
        check.due("30 + 9 - 4", hand.later(1, 1, 0), 35);
        hand.mend(0, LEVEL, 9);
        check.due("to 0", hand.later(1, 0, 0), 0);
    }

    private static void withinAtOnce() {
        check.says("(all within 0 .. 99 at once)");
        RiverHand hand = Check.river(99);
        hand.mend(0, LEVEL, 95);
        hand.mend(0, SPRING, 9);
        hand.mend(0, RAIN, 9);
        Check.law(hand, "20");
        check.due("95 + 9 + 9 - 20, not held at 99 between", hand.later(1, 0, 0), 93);
        Check.law(hand, "14");
        check.due("95 + 9 + 9 - 14", hand.later(1, 0, 0), 99);
        Check.law(hand, "13");
        check.due("100 is held at 99", hand.later(1, 0, 0), 99);
        Check.law(hand, "0");
        check.due("113 is held at 99", hand.later(1, 0, 0), 99);
        hand.mend(0, LEVEL, 2);
        Check.law(hand, "20");
        check.due("2 + 9 + 9 - 2: no more goes than LEVEL", hand.later(1, 0, 0), 18);
    }

    private static void dayBehindSix() {
        check.says("DAY is one more, behind 6: 0.");
        RiverHand hand = Check.calm(99);
        hand.mend(0, RAIN, 1);
        hand.mend(6, RAIN, 9);
        hand.mend(0, DAY, 5);
        hand.day();
        check.due("6", hand.of(0, DAY), 6);
        check.due("in thought from 6 to 0", hand.later(2, 0, 0), 40);
        hand.day();
        check.due("0", hand.of(0, DAY), 0);
        hand.day();
        check.due("1", hand.of(0, DAY), 1);
        check.due("9 of DAY 6, 1 of DAY 0", hand.of(0, LEVEL), 40);
    }

    private static void overAtBank() {
        check.says("It is OVER, if LEVEL is BANK or more.");
        RiverHand hand = Check.calm(60);
        hand.mend(0, LEVEL, 59);
        check.due("one below", hand.count(1), 0);
        check.due("one below", hand.river(0, 0), 0);
        check.due("one below", hand.over(0), RiverHand.NOT);
        hand.mend(0, LEVEL, 60);
        check.due("at it", hand.count(1), 1);
        check.due("at it", hand.river(0, 0), 1);
        check.due("at it", hand.over(0), 0);
        hand.mend(0, LEVEL, 61);
        check.due("above", hand.count(1), 1);
    }

    private static void signs() {
        check.says("1 it rose, 2 it fell, 0 neither (LEVEL behind against LEVEL ahead)");
        RiverHand hand = Check.calm(99);
        check.due("30 and 30", hand.later(1, 0, 1), 0);
        hand.mend(0, SPRING, 1);
        check.due("31 behind 30", hand.later(1, 0, 1), 1);
        Check.law(hand, "2");
        check.due("29 behind 30", hand.later(1, 0, 1), 2);
        Check.law(hand, "0");
        hand.mend(0, LEVEL, 99);
        check.due("99 and 99, though more came", hand.later(1, 0, 1), 0);
        hand.mend(0, SPRING, 0);
        hand.mend(0, LEVEL, 0);
        Check.law(hand, "20");
        check.due("0 and 0, though more were to go", hand.later(1, 0, 1), 0);
    }

    private static void newObject() {
        check.says("A river without reaches.");
        RiverHand hand = new RiverHand();
        check.due("count(0)", hand.count(0), 0);
        check.due("of(0, 0)", hand.of(0, LEVEL), BAD);
        check.due("goes(0)", hand.goes(0), BAD);
        check.due("later(0, 0, 0)", hand.later(0, 0, 0), BAD);
        check.due("river(60, 0)", hand.river(60, 0), 0);
        check.due("river(60, 1)", hand.river(60, 1), 0);
        check.due("over(-1)", hand.over(-1), RiverHand.NOT);
        check.due("over(0)", hand.over(0), BAD);
        check.due("signs(0, 0, 0)", hand.signs(0, 0, 0), BAD);
        check.due("still(): none is unlike", hand.still(), 7);
        check.due("throwIn(0, 0)", hand.throwIn(0, 0), BAD);
        check.due("bridges(20, 0)", hand.bridges(20, 0), 0);
        check.due("bridges(20, 1)", hand.bridges(20, 1), 0);
        check.due("ring(0, 0)", hand.ring(0, 0), BAD);
        check.due("judge(0, 0)", hand.judge(0, 0), BAD);
        check.due("fits(0, 0, 0, 0)", hand.fits(0, 0, 0, 0), BAD);
        check.due("byTurns(1, 100, 0)", hand.byTurns(1, 100, 0), RiverHand.VOID);
        check.due("drawn(1, 10112, -1)", hand.drawn(1, 10112, -1), 0);
        check.due("gift(0, 1)", hand.gift(0, 1), BAD);
        check.due("build(0, 1)", hand.build(0, 1), BAD);
        check.due("day()", hand.day(), 0);
    }

    private static void reach() {
        check.says("A REACH, the next one downstream: its number. BAD, FULL: 8.");
        RiverHand hand = Check.river(1, 2, 3, 4, 5, 6, 7);
        check.due("BAD as the eighth", hand.reach(100), BAD);
        check.due("the eighth", hand.reach(8), 7);
        check.due("the ninth", hand.reach(9), RiverHand.FULL);
        check.due("eight", hand.count(0), 8);
        check.due("the eighth as it was", hand.of(7, BANK), 8);
    }

    private static RiverHand rowOfThrees(int threes) {
        RiverHand hand = new RiverHand();
        hand.row(0, 0, 3 * threes);
        for (int i = 0; i < threes; i++) {
            hand.put(0, 3 * i, 10 + i);
            hand.put(0, 3 * i + 1, 40 + i);
            hand.put(0, 3 * i + 2, i % 10);
        }
        return hand;
    }

    private static void reachesHowMany() {
        check.says("REACHES FROM A ROW on a SHELF, from place i on, n (1 .. 8) of them: how many came. BAD,");
        RiverHand hand = rowOfThrees(8);
        check.due("n 0", hand.reaches(0, 0, 0), BAD);
        check.due("n -1", hand.reaches(0, 0, -1), BAD);
        check.due("n 9", hand.reaches(0, 0, 9), BAD);
        check.due("the most n", hand.reaches(0, 0, Integer.MAX_VALUE), BAD);
        check.due("the least n", hand.reaches(0, 0, Integer.MIN_VALUE), BAD);
        check.due("n 0 of a missing row", hand.reaches(1, 0, 0), BAD);
        check.due("n 9 of a missing row", hand.reaches(1, 0, 9), BAD);
        check.due("shelf 6", hand.reaches(6, 0, 1), BAD);
        check.due("shelf -1", hand.reaches(-1, 0, 1), BAD);
        check.due("none yet", hand.count(0), 0);
        check.due("n 1", hand.reaches(0, 0, 1), 1);
        check.due("one", hand.count(0), 1);
        check.due("n 8", rowOfThrees(8).reaches(0, 0, 8), 8);
    }

    private static void reachesOfOtherKinds() {
        check.says("-12 (no ROW of bytes; a SHELF that holds nothing is missing)");
        RiverHand hand = new RiverHand();
        for (int sort = 1; sort <= 4; sort++) {
            hand.row(0, sort, 3);
            check.due("sort " + sort, hand.reaches(0, 0, 1), -12);
            hand.row(0, sort, 0);
            check.due("sort " + sort + ", no elements", hand.reaches(0, 0, 1), -12);
        }
        hand.body(0);
        hand.keep(0, 0);
        check.due("a STEP", hand.reaches(0, 0, 1), -12);
        hand.keep(0, -1);
        check.due("nothing", hand.reaches(0, 0, 1), 0);
    }

    private static void reachesMissing() {
        check.says("it ends where the row is missing");
        RiverHand hand = new RiverHand();
        for (int shelf = 0; shelf <= 5; shelf++) {
            check.due("shelf " + shelf, hand.reaches(shelf, 0, 8), 0);
            check.due("from below 0", hand.reaches(shelf, -1, 1), 0);
            check.due("from far on", hand.reaches(shelf, Integer.MAX_VALUE, 1), 0);
        }
        check.due("none came", hand.count(0), 0);
    }

    private static void rowEnds() {
        check.says("ends (within a three, too)");
        for (int length = 0; length <= 9; length++) {
            RiverHand hand = new RiverHand();
            hand.row(0, 0, length);
            for (int i = 1; i < length; i += 3) {
                hand.put(0, i, 50);
            }
            check.due("a row of " + length, hand.reaches(0, 0, 8), length / 3);
            check.due("came from a row of " + length, hand.count(0), length / 3);
        }
        RiverHand hand = rowOfThrees(2);
        check.due("from the last element", hand.reaches(0, 5, 1), 0);
        check.due("from its end", hand.reaches(0, 6, 1), 0);
        check.due("from behind its end", hand.reaches(0, 7, 8), 0);
        check.due("from far behind it", hand.reaches(0, Integer.MAX_VALUE, 8), 0);
        check.due("from below 0", hand.reaches(0, -3, 8), 0);
        check.due("from far below 0", hand.reaches(0, Integer.MIN_VALUE, 8), 0);
        check.due("from the last three", hand.reaches(0, 3, 8), 1);
    }

    private static void oneIsNotSo() {
        check.says("one is not so, or REACHES are FULL: those ahead came.");
        int[][] so = {{0, 1, 0}, {99, 99, 9}, {0, 99, 9}, {99, 1, 0}};
        for (int[] three : so) {
            RiverHand hand = new RiverHand();
            Check.bytes(hand, 0, three);
            check.due("one that is so", hand.reaches(0, 0, 1), 1);
        }
        int[][] notSo = {{100, 50, 5}, {-1, 50, 5}, {50, 100, 5}, {50, 0, 5}, {50, -1, 5}, {50, 50, 10}, {50, 50, -1},
            {127, 50, 5}, {-128, 50, 5}, {50, 127, 5}, {50, 50, 127}, {50, 50, -128}};
        for (int[] three : notSo) {
            RiverHand hand = new RiverHand();
            Check.bytes(hand, 0, 11, 22, 3, three[0], three[1], three[2], 44, 55, 6);
            check.due("one ahead of what is not so", hand.reaches(0, 0, 3), 1);
            check.due("one came", hand.count(0), 1);
            check.due("as told", hand.of(0, LEVEL), 11);
        }
    }

    private static void reachesAreFull() {
        check.says("or REACHES are FULL: those ahead came.");
        RiverHand hand = rowOfThrees(8);
        check.due("five", hand.reaches(0, 0, 5), 5);
        check.due("three more have room", hand.reaches(0, 3, 8), 3);
        check.due("eight", hand.count(0), 8);
        check.due("the last", hand.of(7, LEVEL), 13);
        check.due("none more", hand.reaches(0, 0, 1), 0);
        check.due("eight still", hand.count(0), 8);
    }

    private static void threes() {
        check.says("by threes LEVEL, BANK, GIFTS: n of them");
        RiverHand hand = rowOfThrees(4);
        check.due("two from place 3 on", hand.reaches(0, 3, 2), 2);
        for (int i = 0; i < 2; i++) {
            check.due("LEVEL", hand.of(i, LEVEL), 11 + i);
            check.due("BANK", hand.of(i, BANK), 41 + i);
            check.due("GIFTS", hand.of(i, GIFTS), 1 + i);
            check.due("BRIDGE", hand.of(i, BRIDGE), 0);
        }
        check.due("no more than two", hand.count(0), 2);
    }

    private static void mend() {
        check.says("becomes v: what it was. BAD.");
        RiverHand hand = Check.river(60, 60);
        int[] was = {30, 60, 0, 0, 0, 3, 0};
        for (int what = 0; what <= 6; what++) {
            check.due("what it was", hand.mend(0, what, 1), was[what]);
            check.due("the same once more", hand.mend(0, what, 1), 1);
            check.due("is", hand.of(0, what), 1);
        }
        for (int what = 0; what <= 3; what++) {
            check.due("of the other", hand.of(1, what), was[what]);
        }
        for (int what : new int[] {-1, 7, Integer.MIN_VALUE, Integer.MAX_VALUE}) {
            check.due("what " + what, hand.mend(0, what, 1), BAD);
        }
    }

    private static void mendNumberOfBoth() {
        check.says("SPRING (5), DAY (6; number 0 for both)");
        RiverHand hand = Check.river(60, 60);
        for (int what = SPRING; what <= DAY; what++) {
            check.due("number 1", hand.mend(1, what, 2), BAD);
            check.due("number -1", hand.mend(-1, what, 2), BAD);
            check.due("of number 1", hand.of(1, what), BAD);
            check.due("of number -1", hand.of(-1, what), BAD);
            check.due("as it was", hand.of(0, what), what == SPRING ? 3 : 0);
            check.due("number 0", hand.mend(0, what, 2), what == SPRING ? 3 : 0);
        }
    }

    private static void mendNoSuchNumber() {
        check.says("LEVEL (what 0), BANK (1), BRIDGE (2), GIFTS (3) of a REACH, RAIN (4) of a DAY 0 .. 6");
        RiverHand hand = Check.river(60, 60);
        int[] none = {-1, 2, 7, 8, Integer.MIN_VALUE, Integer.MAX_VALUE};
        for (int what = LEVEL; what <= GIFTS; what++) {
            for (int number : none) {
                check.due("REACH " + number + ", what " + what, hand.mend(number, what, 1), BAD);
            }
            check.due("the last REACH", hand.mend(1, what, 1) >= 0 ? 1 : 0, 1);
        }
        for (int number : new int[] {-1, 7, Integer.MIN_VALUE, Integer.MAX_VALUE}) {
            check.due("DAY " + number, hand.mend(number, RAIN, 1), BAD);
        }
        check.due("DAY 6, without so many REACHES", hand.mend(6, RAIN, 1), 0);
    }

    private static void of() {
        check.says("As of mend() (0 to 6). BAD.");
        RiverHand hand = Check.river(60, 60);
        for (int what : new int[] {-1, 7, Integer.MIN_VALUE, Integer.MAX_VALUE}) {
            check.due("what " + what, hand.of(0, what), BAD);
        }
        for (int what = LEVEL; what <= GIFTS; what++) {
            check.due("REACH 2", hand.of(2, what), BAD);
            check.due("REACH -1", hand.of(-1, what), BAD);
            check.due("REACH 1", hand.of(1, what) >= 0 ? 1 : 0, 1);
        }
        check.due("DAY 7", hand.of(7, RAIN), BAD);
        check.due("DAY -1", hand.of(-1, RAIN), BAD);
        check.due("DAY 6", hand.of(6, RAIN), 0);
    }

    private static void goes() {
        check.says("How much goes from a REACH today. BAD.");
        RiverHand hand = Check.river(60, 60);
        hand.mend(6, RAIN, 8);
        hand.mend(0, DAY, 6);
        Check.law(hand, "r+d");
        check.due("by DAY and RAIN of today", hand.goes(0), 14);
        check.due("from the last", hand.goes(1), 14);
        for (int reach : new int[] {-1, 2, 8, Integer.MIN_VALUE, Integer.MAX_VALUE}) {
            check.due("reach " + reach, hand.goes(reach), BAD);
        }
    }

    private static void goesWithoutText() {
        check.says("Without a text: l by 5 (cut), less 2 times b, less g by 3 (cut).");
        RiverHand hand = Check.river(60);
        int[][] byLevel = {{0, 0}, {4, 0}, {5, 1}, {9, 1}, {10, 2}, {94, 18}, {95, 19}, {99, 19}};
        for (int[] row : byLevel) {
            hand.mend(0, LEVEL, row[0]);
            check.due("LEVEL " + row[0], hand.goes(0), row[1]);
        }
        int[] byGifts = {19, 19, 19, 18, 18, 18, 17, 17, 17, 16};
        for (int gifts = 0; gifts <= 9; gifts++) {
            hand.mend(0, GIFTS, gifts);
            check.due("GIFTS " + gifts, hand.goes(0), byGifts[gifts]);
        }
        hand.mend(0, BRIDGE, 1);
        check.due("a BRIDGE", hand.goes(0), 14);
        hand.mend(0, LEVEL, 25);
        check.due("5 - 2 - 3", hand.goes(0), 0);
        hand.mend(0, LEVEL, 30);
        check.due("6 - 2 - 3", hand.goes(0), 1);
        hand.mend(0, LEVEL, 24);
        check.due("4 - 2 - 3 is held at 0", hand.goes(0), 0);
    }

    private static void fiveHundredAndTwelve() {
        check.says("An object is used for at most 512 calls after it has been made");
        RiverHand hand = new RiverHand();
        hand.reach(99);
        hand.mend(0, SPRING, 1);
        for (int call = 3; call <= 510; call++) {
            hand.day();
        }
        check.due("the 511th", hand.led(0), 508);
        check.due("the 512th: 508 % 7", hand.of(0, DAY), 4);
    }

    private static void memoryOfItsOwn() {
        check.says("All memory is the class's own.");
        RiverHand one = Check.river(60);
        RiverHand other = Check.river(60, 60);
        one.mend(0, LEVEL, 50);
        one.mend(0, RAIN, 9);
        Check.law(one, "1");
        one.feed('2');
        one.image();
        one.body(3);
        one.act(0, 0, 1);
        one.row(0, 0, 3);
        one.day();
        int[] counts = {2, 0, 0, 0, 0, 0};
        for (int what = 0; what <= 5; what++) {
            check.due("count(" + what + ") of the other", other.count(what), counts[what]);
        }
        check.due("LEVEL of the other", other.of(0, LEVEL), 30);
        check.due("RAIN of the other", other.of(0, RAIN), 0);
        check.due("DAY of the other", other.of(0, DAY), 0);
        check.due("LAW of the other", other.goes(0), 6);
        check.due("no image of the other", other.back(), RiverHand.STATE);
        check.due("shelf of the other", other.put(0, 0, 1), -11);
        check.due("led of the other", other.led(0), 0);
    }
}
