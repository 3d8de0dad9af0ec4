/** The edges that the document names of what is done in deed, led, imaged and undone: Terms 4; promises 23 to 30. */
public final class EdgesOfDeedTest {
    private static final Check check = new Check();
    private static final int BAD = RiverHand.BAD, STATE = RiverHand.STATE;
    private static final int LEVEL = 0, BANK = 1, BRIDGE = 2, GIFTS = 3, RAIN = 4, SPRING = 5, DAY = 6;

    public static void main(String[] args) {
        dayPasses();
        day();
        gift();
        giftsNineAtMost();
        giftHeld();
        bridgeInDeed();
        build();
        ledDays();
        ledSigns();
        ledFloods();
        ledGifts();
        led();
        allNumbersOfMend();
        sameNumberIsNone();
        refusedIsNone();
        latestFirst();
        doneAgain();
        noOtherBehind();
        sameNumberBehind();
        fortyAtMost();
        oldestIsForgotten();
        deedsAreNone();
        deedsBetween();
        imageKeeps();
        imageKeepsNotTheRest();
        image();
        back();
        backWithReachesSince();
        backWithout();
        undo();
        redo();
        check.finish();
    }

    private static void dayPasses() {
        check.says("IN DEED: a DAY passes");
        RiverHand hand = Check.river(99, 99);
        hand.mend(0, LEVEL, 10);
        hand.mend(1, LEVEL, 8);
        hand.mend(6, RAIN, 9);
        hand.mend(0, DAY, 6);
        Check.law(hand, "l");
        hand.day();
        check.due("10 + 9 + 3 - 10", hand.of(0, LEVEL), 12);
        check.due("8 + 9 + 10 - 8", hand.of(1, LEVEL), 19);
        check.due("DAY behind 6", hand.of(0, DAY), 0);
        check.due("RAIN as it was", hand.of(6, RAIN), 9);
        check.due("SPRING as it was", hand.of(0, SPRING), 3);
        Check.law(hand, "0");
        hand.mend(0, LEVEL, 97);
        hand.day();
        check.due("held at 99", hand.of(0, LEVEL), 99);
    }

    private static void day() {
        check.says("A DAY passes: how many are OVER then.");
        RiverHand hand = Check.calm(35, 30, 99);
        hand.mend(0, SPRING, 5);
        check.due("then, not ahead", hand.day(), 2);
        RiverHand all = Check.calm(1, 1, 1, 1, 1, 1, 1, 1);
        check.due("all eight", all.day(), 8);
        check.due("none of none", new RiverHand().day(), 0);
        RiverHand falls = Check.calm(30);
        Check.law(falls, "1");
        check.due("no more OVER", falls.day(), 0);
    }

    private static void gift() {
        check.says("A gift of v (0 .. 99) is thrown into a REACH: LEVEL then. BAD; STATE: GIFTS are 9.");
        RiverHand hand = Check.calm(60, 60);
        for (int v : new int[] {-1, 100, Integer.MIN_VALUE, Integer.MAX_VALUE}) {
            check.due("v " + v, hand.gift(0, v), BAD);
        }
        for (int reach : new int[] {-1, 2, 8, Integer.MIN_VALUE, Integer.MAX_VALUE}) {
            check.due("reach " + reach, hand.gift(reach, 1), BAD);
        }
        check.due("v 0", hand.gift(0, 0), 30);
        check.due("v 99", hand.gift(1, 99), 99);
        check.due("two", hand.led(4), 2);
    }

    private static void giftsNineAtMost() {
        check.says("GIFTS one more, 9 at most");
        RiverHand hand = Check.calm(60, 60);
        for (int i = 1; i <= 9; i++) {
            check.due("gift " + i, hand.gift(0, 1), 30 + i);
            check.due("GIFTS", hand.of(0, GIFTS), i);
        }
        check.due("the tenth", hand.gift(0, 1), STATE);
        check.due("the tenth of 0", hand.gift(0, 0), STATE);
        check.due("BAD ahead of STATE", hand.gift(0, 100), BAD);
        check.due("GIFTS", hand.of(0, GIFTS), 9);
        check.due("LEVEL", hand.of(0, LEVEL), 39);
        check.due("led", hand.led(4), 9);
        check.due("the other has room", hand.gift(1, 1), 31);
        hand.mend(1, GIFTS, 9);
        check.due("GIFTS by mend()", hand.gift(1, 1), STATE);
        hand.mend(1, GIFTS, 8);
        check.due("one more", hand.gift(1, 1), 32);
    }

    private static void giftHeld() {
        check.says("LEVEL v more, 99 at most");
        RiverHand hand = Check.calm(60);
        hand.mend(0, LEVEL, 90);
        check.due("98", hand.gift(0, 8), 98);
        check.due("99", hand.gift(0, 1), 99);
        check.due("100 is held", hand.gift(0, 1), 99);
        check.due("LEVEL", hand.of(0, LEVEL), 99);
        check.due("GIFTS though", hand.of(0, GIFTS), 3);
    }

    private static void bridgeInDeed() {
        check.says("a BRIDGE is built, or taken down.");
        RiverHand hand = Check.river(60, 60);
        hand.build(1, 1);
        check.due("built", hand.of(1, BRIDGE), 1);
        check.due("the other", hand.of(0, BRIDGE), 0);
        check.due("2 less go", hand.goes(1), 4);
        hand.build(1, 0);
        check.due("taken down", hand.of(1, BRIDGE), 0);
    }

    private static void build() {
        check.says("A BRIDGE is built (how 1), taken down (0): what it was. BAD.");
        RiverHand hand = Check.river(60, 60);
        check.due("none to take down", hand.build(0, 0), 0);
        check.due("built", hand.build(0, 1), 0);
        check.due("built again", hand.build(0, 1), 1);
        check.due("taken down", hand.build(0, 0), 1);
        for (int how : new int[] {-1, 2, Integer.MIN_VALUE, Integer.MAX_VALUE}) {
            check.due("how " + how, hand.build(0, how), BAD);
        }
        for (int reach : new int[] {-1, 2, 8, Integer.MIN_VALUE, Integer.MAX_VALUE}) {
            check.due("reach " + reach, hand.build(reach, 1), BAD);
        }
    }

    private static void ledDays() {
        check.says("LED: days, rises, falls, floods (each that comes to be OVER by a day), gifts.");
        RiverHand hand = Check.calm(60);
        check.due("none yet", hand.led(0), 0);
        for (int i = 1; i <= 15; i++) {
            hand.day();
            check.due("days", hand.led(0), i);
        }
        hand.mend(0, DAY, 3);
        check.due("DAY is not days", hand.led(0), 15);
        hand.later(60, 0, 0);
        check.due("in thought none", hand.led(0), 15);
    }

    private static void ledSigns() {
        check.says("LED: days (what 0), rises (1), falls (2; of all REACHES), floods (3), gifts (4). BAD.");
        RiverHand hand = Check.calm(99, 99, 99);
        Check.law(hand, "g");
        hand.mend(0, GIFTS, 4);
        hand.mend(1, GIFTS, 4);
        hand.day();
        check.due("the last rises", hand.led(1), 1);
        check.due("the first falls", hand.led(2), 1);
        hand.mend(0, RAIN, 9);
        hand.mend(1, RAIN, 9);
        hand.day();
        check.due("all three rise", hand.led(1), 4);
        check.due("none falls", hand.led(2), 1);
        hand.mend(0, LEVEL, 99);
        hand.gift(0, 5);
        check.due("a gift is no rise", hand.led(1), 4);
        hand.mend(0, LEVEL, 5);
        check.due("what is mended is no fall", hand.led(2), 1);
        hand.mend(2, LEVEL, 99);
        hand.mend(0, GIFTS, 0);
        hand.day();
        check.due("99 and 99 is no rise", hand.led(1), 4);
        check.due("the second falls", hand.led(2), 2);
    }

    private static void ledFloods() {
        check.says("floods (each that comes to be OVER by a day)");
        RiverHand hand = Check.calm(31, 32, 30);
        hand.mend(0, RAIN, 1);
        hand.mend(1, RAIN, 1);
        hand.day();
        check.due("31, and one that was", hand.led(3), 1);
        hand.day();
        check.due("32", hand.led(3), 2);
        hand.day();
        check.due("all were", hand.led(3), 2);
        hand.mend(0, LEVEL, 30);
        hand.gift(0, 1);
        check.due("OVER by a gift is none", hand.led(3), 2);
        hand.day();
        check.due("nor by the day behind it", hand.led(3), 2);
        hand.mend(0, LEVEL, 30);
        hand.mend(1, LEVEL, 31);
        hand.mend(2, LEVEL, 29);
        hand.mend(0, DAY, 0);
        hand.day();
        check.due("three at once", hand.led(3), 5);
        hand.mend(0, LEVEL, 30);
        hand.mend(0, BANK, 30);
        hand.day();
        check.due("OVER by its BANK is none", hand.led(3), 5);
    }

    private static void ledGifts() {
        check.says("floods (3), gifts (4)");
        RiverHand hand = Check.calm(60, 60);
        hand.gift(0, 0);
        hand.gift(1, 99);
        hand.gift(1, 5);
        check.due("three", hand.led(4), 3);
        hand.mend(0, GIFTS, 9);
        hand.gift(0, 1);
        hand.gift(0, 100);
        hand.gift(2, 1);
        check.due("none refused, none mended", hand.led(4), 3);
    }

    private static void led() {
        check.says("floods (3), gifts (4). BAD.");
        RiverHand hand = Check.calm(60);
        for (int what : new int[] {-1, 5, Integer.MIN_VALUE, Integer.MAX_VALUE}) {
            check.due("what " + what, hand.led(what), BAD);
        }
        for (int what = 0; what <= 4; what++) {
            check.due("at first", hand.led(what), 0);
        }
    }

    private static void allNumbersOfMend() {
        check.says("CHANGES (all numbers of mend();");
        RiverHand hand = Check.river(60, 60);
        int[] first = {30, 60, 0, 0, 0, 3, 0};
        int[] numbers = {1, 1, 1, 1, 6, 0, 0};
        for (int what = 0; what <= 6; what++) {
            hand.mend(numbers[what], what, 1);
            check.due("CHANGES", hand.count(3), what + 1);
        }
        for (int what = 6; what >= 0; what--) {
            check.due("undo", hand.undo(), what);
            check.due("what " + what, hand.of(numbers[what], what), first[what]);
        }
        for (int what = 0; what <= 6; what++) {
            check.due("redo", hand.redo(), 6 - what);
            check.due("what " + what, hand.of(numbers[what], what), 1);
        }
    }

    private static void sameNumberIsNone() {
        check.says("telling the same number is none");
        RiverHand hand = Check.river(60);
        int[] first = {30, 60, 0, 0, 0, 3, 0};
        for (int what = 0; what <= 6; what++) {
            check.due("the same", hand.mend(0, what, first[what]), first[what]);
            check.due("no CHANGE", hand.count(3), 0);
        }
        check.due("nothing to undo", hand.undo(), STATE);
        hand.mend(0, LEVEL, 31);
        hand.mend(0, LEVEL, 31);
        check.due("one", hand.count(3), 1);
    }

    private static void refusedIsNone() {
        check.says("What is answered so changes nothing.");
        RiverHand hand = Check.river(60);
        hand.mend(0, LEVEL, 31);
        hand.mend(0, LEVEL, 32);
        hand.undo();
        hand.mend(0, LEVEL, 100);
        hand.mend(1, LEVEL, 50);
        hand.mend(0, 7, 1);
        check.due("BAD is no CHANGE", hand.count(3), 1);
        check.due("and hinders no redo", hand.redo(), 0);
    }

    private static void latestFirst() {
        check.says("can be UNDONE, the latest first");
        RiverHand hand = Check.river(60);
        hand.mend(0, LEVEL, 40);
        hand.mend(0, SPRING, 7);
        hand.mend(0, LEVEL, 50);
        check.due("two more", hand.undo(), 2);
        check.due("LEVEL", hand.of(0, LEVEL), 40);
        check.due("SPRING", hand.of(0, SPRING), 7);
        check.due("one more", hand.undo(), 1);
        check.due("SPRING", hand.of(0, SPRING), 3);
        check.due("LEVEL", hand.of(0, LEVEL), 40);
        check.due("none more", hand.undo(), 0);
        check.due("LEVEL", hand.of(0, LEVEL), 30);
        check.due("none", hand.undo(), STATE);
    }

    private static void doneAgain() {
        check.says("and DONE AGAIN (as long as no other came behind)");
        RiverHand hand = Check.river(60);
        hand.mend(0, LEVEL, 40);
        hand.mend(0, LEVEL, 50);
        check.due("nothing was UNDONE", hand.redo(), STATE);
        hand.undo();
        hand.undo();
        check.due("one more", hand.redo(), 1);
        check.due("LEVEL", hand.of(0, LEVEL), 40);
        check.due("none more", hand.redo(), 0);
        check.due("LEVEL", hand.of(0, LEVEL), 50);
        check.due("none", hand.redo(), STATE);
        check.due("both may be UNDONE again", hand.count(3), 2);
        check.due("undo again", hand.undo(), 1);
        check.due("LEVEL", hand.of(0, LEVEL), 40);
    }

    private static void noOtherBehind() {
        check.says("(as long as no other came behind)");
        RiverHand hand = Check.river(60);
        hand.mend(0, LEVEL, 40);
        hand.mend(0, LEVEL, 50);
        hand.undo();
        hand.mend(0, SPRING, 9);
        check.due("another came", hand.redo(), STATE);
        check.due("two", hand.count(3), 2);
        check.due("undo the other", hand.undo(), 1);
        check.due("that can be DONE AGAIN", hand.redo(), 0);
        check.due("SPRING", hand.of(0, SPRING), 9);
        check.due("LEVEL", hand.of(0, LEVEL), 40);
        check.due("the one that was UNDONE is gone", hand.redo(), STATE);
        hand.undo();
        hand.undo();
        hand.mend(0, DAY, 4);
        check.due("another came behind two", hand.redo(), STATE);
        check.due("one", hand.count(3), 1);
    }

    private static void sameNumberBehind() {
        check.says("telling the same number is none)");
        RiverHand hand = Check.river(60);
        hand.mend(0, LEVEL, 40);
        hand.undo();
        hand.mend(0, LEVEL, 30);
        hand.mend(0, SPRING, 3);
        check.due("no other came", hand.redo(), 0);
        check.due("LEVEL", hand.of(0, LEVEL), 40);
    }

    private static void fortyAtMost() {
        check.says("40 at most are kept");
        RiverHand hand = Check.river(60);
        for (int i = 1; i <= 40; i++) {
            hand.mend(0, LEVEL, 30 + i);
            check.due("kept", hand.count(3), i);
        }
        for (int i = 39; i >= 0; i--) {
            check.due("undo", hand.undo(), i);
        }
        check.due("none", hand.undo(), STATE);
        check.due("LEVEL at first", hand.of(0, LEVEL), 30);
        for (int i = 39; i >= 0; i--) {
            check.due("redo", hand.redo(), i);
        }
        check.due("none", hand.redo(), STATE);
        check.due("LEVEL at last", hand.of(0, LEVEL), 70);
    }

    private static void oldestIsForgotten() {
        check.says("40 at most are kept;");
        RiverHand hand = Check.river(60);
        for (int i = 1; i <= 41; i++) {
            hand.mend(0, LEVEL, 30 + i);
        }
        check.due("40", hand.count(3), 40);
        for (int i = 39; i >= 0; i--) {
            check.due("undo", hand.undo(), i);
        }
        check.due("none", hand.undo(), STATE);
        check.due("the oldest stays done", hand.of(0, LEVEL), 31);
        for (int i = 0; i < 40; i++) {
            hand.redo();
        }
        check.due("all again", hand.of(0, LEVEL), 71);
        hand.undo();
        hand.undo();
        hand.mend(0, SPRING, 9);
        hand.mend(0, DAY, 5);
        hand.mend(2, RAIN, 5);
        check.due("40 still", hand.count(3), 40);
        for (int i = 39; i >= 0; i--) {
            check.due("undo", hand.undo(), i);
        }
        check.due("the two oldest stay done", hand.of(0, LEVEL), 32);
        check.due("SPRING", hand.of(0, SPRING), 3);
        check.due("DAY", hand.of(0, DAY), 0);
        check.due("RAIN", hand.of(2, RAIN), 0);
        forgottenOfUnlikeNumbers();
    }

    /** 42 CHANGES: six weeks of RAIN, one more each day and each week; those of DAYS 0 and 1 in the first week are forgotten. */
    private static void forgottenOfUnlikeNumbers() {
        RiverHand hand = new RiverHand();
        for (int i = 0; i < 42; i++) {
            hand.mend(i % 7, RAIN, rainOfChange(i));
        }
        check.due("40", hand.count(3), 40);
        for (int i = 41; i >= 2; i--) {
            hand.undo();
            check.due("RAIN UNDONE", hand.of(i % 7, RAIN), i < 7 ? 0 : rainOfChange(i - 7));
        }
        for (int day = 0; day <= 6; day++) {
            check.due("RAIN of " + day + ", all UNDONE", hand.of(day, RAIN), day <= 1 ? rainOfChange(day) : 0);
        }
        for (int i = 2; i < 42; i++) {
            hand.redo();
            check.due("RAIN DONE AGAIN", hand.of(i % 7, RAIN), rainOfChange(i));
        }
    }

    /** 1 to 9, unlike that of the CHANGE ahead of it and that of a week ahead. */
    private static int rainOfChange(int i) {
        return 1 + (i % 7 + i / 7) % 9;
    }

    private static void deedsAreNone() {
        check.says("deeds are none (LEVEL, GIFTS, BRIDGE, DAY by them, too)");
        RiverHand hand = Check.river(60);
        hand.day();
        hand.gift(0, 5);
        hand.build(0, 1);
        hand.image();
        hand.day();
        hand.back();
        hand.reach(50);
        Check.law(hand, "4");
        Check.bytes(hand, 0, 10, 20, 3);
        hand.reaches(0, 0, 1);
        check.due("no CHANGE", hand.count(3), 0);
        check.due("none to undo", hand.undo(), STATE);
        check.due("LEVEL by them", hand.of(0, LEVEL), 30 + 3 - 6 + 5);
        check.due("GIFTS by them", hand.of(0, GIFTS), 1);
        check.due("BRIDGE by them", hand.of(0, BRIDGE), 1);
        check.due("DAY by them", hand.of(0, DAY), 1);
    }

    private static void deedsBetween() {
        check.says("deeds are none");
        RiverHand hand = Check.calm(60);
        hand.mend(0, LEVEL, 40);
        hand.mend(0, GIFTS, 3);
        hand.undo();
        hand.day();
        hand.gift(0, 5);
        hand.build(0, 1);
        check.due("they hinder no redo", hand.redo(), 0);
        check.due("GIFTS as they became", hand.of(0, GIFTS), 3);
        hand.undo();
        check.due("GIFTS as they were ahead of the CHANGE", hand.of(0, GIFTS), 0);
        hand.undo();
        check.due("LEVEL as it was ahead of the CHANGE", hand.of(0, LEVEL), 30);
        check.due("BRIDGE by deed stays", hand.of(0, BRIDGE), 1);
        check.due("DAY by deed stays", hand.of(0, DAY), 1);
    }

    private static void imageKeeps() {
        check.says("AN IMAGE keeps LEVEL, GIFTS, BRIDGE, DAY, what LED tells.");
        RiverHand hand = Check.calm(31, 60);
        hand.mend(0, RAIN, 1);
        hand.mend(0, SPRING, 1);
        hand.day();
        hand.gift(1, 5);
        hand.build(1, 1);
        int[] led = {1, 2, 0, 1, 1};
        hand.image();
        for (int i = 0; i < 10; i++) {
            hand.day();
        }
        hand.gift(0, 20);
        hand.build(0, 1);
        hand.build(1, 0);
        hand.mend(1, LEVEL, 3);
        hand.mend(1, GIFTS, 7);
        hand.back();
        int[][] due = {{32, 31, 0, 0}, {36, 60, 1, 1}};
        for (int reach = 0; reach <= 1; reach++) {
            check.due("LEVEL", hand.of(reach, LEVEL), due[reach][LEVEL]);
            check.due("GIFTS", hand.of(reach, GIFTS), due[reach][GIFTS]);
            check.due("BRIDGE", hand.of(reach, BRIDGE), due[reach][BRIDGE]);
        }
        check.due("DAY", hand.of(0, DAY), 1);
        for (int what = 0; what <= 4; what++) {
            check.due("led(" + what + ")", hand.led(what), led[what]);
        }
    }

    private static void imageKeepsNotTheRest() {
        check.says("AN IMAGE keeps LEVEL, GIFTS, BRIDGE, DAY");
        RiverHand hand = Check.calm(60);
        hand.image();
        hand.mend(0, BANK, 44);
        hand.mend(5, RAIN, 6);
        hand.mend(0, SPRING, 8);
        Check.law(hand, "7");
        hand.feed('1');
        hand.body(1);
        hand.back();
        check.due("BANK", hand.of(0, BANK), 44);
        check.due("RAIN", hand.of(5, RAIN), 6);
        check.due("SPRING", hand.of(0, SPRING), 8);
        check.due("THE LAW", hand.goes(0), 7);
        check.due("THE TAPE", hand.count(2), 1);
        check.due("BODIES", hand.count(4), 1);
        check.due("CHANGES: SPRING of calm water, and three", hand.count(3), 4);
        check.due("undo", hand.undo(), 3);
        check.due("SPRING ahead of that", hand.of(0, SPRING), 0);
    }

    private static void image() {
        check.says("AN IMAGE is kept: days.");
        RiverHand hand = Check.calm(60);
        check.due("none yet", hand.image(), 0);
        hand.day();
        hand.day();
        check.due("two", hand.image(), 2);
        hand.mend(0, LEVEL, 50);
        check.due("back to the latest", hand.back(), 2);
        check.due("LEVEL", hand.of(0, LEVEL), 30);
        check.due("DAY", hand.of(0, DAY), 2);
        RiverHand none = new RiverHand();
        check.due("without REACHES", none.image(), 0);
        none.day();
        check.due("laid back", none.back(), 0);
        check.due("DAY", none.of(0, DAY), 0);
    }

    private static void back() {
        check.says("It is laid back (REACHES that came since as they are): days.");
        RiverHand hand = Check.calm(60);
        for (int i = 0; i < 9; i++) {
            hand.day();
        }
        hand.image();
        hand.day();
        check.due("days, not DAY", hand.back(), 9);
        hand.day();
        hand.mend(0, LEVEL, 50);
        check.due("once more", hand.back(), 9);
        check.due("LEVEL", hand.of(0, LEVEL), 30);
    }

    private static void backWithReachesSince() {
        check.says("(REACHES that came since as they are)");
        RiverHand hand = Check.calm(60);
        hand.image();
        hand.reach(50);
        hand.mend(1, LEVEL, 77);
        hand.mend(1, GIFTS, 5);
        hand.mend(1, BRIDGE, 1);
        hand.mend(0, LEVEL, 44);
        hand.back();
        check.due("REACHES", hand.count(0), 2);
        check.due("LEVEL", hand.of(1, LEVEL), 77);
        check.due("BANK", hand.of(1, BANK), 50);
        check.due("GIFTS", hand.of(1, GIFTS), 5);
        check.due("BRIDGE", hand.of(1, BRIDGE), 1);
        check.due("the one that was there", hand.of(0, LEVEL), 30);
        RiverHand none = new RiverHand();
        none.image();
        none.reach(60);
        none.mend(0, LEVEL, 99);
        none.back();
        check.due("all came since", none.of(0, LEVEL), 99);
        check.due("one", none.count(0), 1);
    }

    private static void backWithout() {
        check.says("days. STATE: there is none.");
        RiverHand hand = Check.calm(60);
        hand.day();
        hand.mend(0, LEVEL, 50);
        check.due("none", hand.back(), STATE);
        check.due("days", hand.led(0), 1);
        check.due("LEVEL", hand.of(0, LEVEL), 50);
    }

    private static void undo() {
        check.says("UNDONE: how many may still be. STATE: none.");
        RiverHand hand = new RiverHand();
        check.due("none", hand.undo(), STATE);
        hand.mend(0, SPRING, 4);
        hand.mend(0, SPRING, 5);
        check.due("one more", hand.undo(), 1);
        check.due("count(3)", hand.count(3), 1);
        check.due("none more", hand.undo(), 0);
        check.due("none", hand.undo(), STATE);
        check.due("SPRING", hand.of(0, SPRING), 3);
    }

    private static void redo() {
        check.says("DONE AGAIN: how many may still be. STATE: none.");
        RiverHand hand = new RiverHand();
        check.due("none", hand.redo(), STATE);
        hand.mend(0, SPRING, 4);
        hand.mend(0, SPRING, 5);
        check.due("none UNDONE", hand.redo(), STATE);
        hand.undo();
        hand.undo();
        check.due("one more", hand.redo(), 1);
        check.due("none more", hand.redo(), 0);
        check.due("none", hand.redo(), STATE);
        check.due("SPRING", hand.of(0, SPRING), 5);
    }
}
