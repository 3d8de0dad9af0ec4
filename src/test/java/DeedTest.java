/** Promises 23 to 30: days, gifts and bridges in deed, what is led, the image, what is undone. */
public final class DeedTest {
    private static final Check check = new Check();

    public static void main(String[] args) {
        day();
        floods();
        gift();
        build();
        ledRefused();
        imageAndBack();
        undoAndRedo();
        fortyAtMost();
        deedsAreNone();
        check.finish();
    }

    private static void led(RiverHand hand, int... due) {
        for (int what = 0; what < 5; what++) {
            check.due("led(" + what + ")", hand.led(what), due[what]);
        }
    }

    private static void day() {
        RiverHand empty = new RiverHand();
        check.due("no REACHES", empty.day(), 0);
        led(empty, 1, 0, 0, 0, 0);
        check.due("DAY", empty.of(0, 6), 1);
        RiverHand hand = Check.river(60, 60, 60);
        hand.mend(0, 0, 50);
        hand.mend(1, 0, 20);
        hand.mend(0, 4, 2);
        check.due("none OVER", hand.day(), 0);
        check.due("LEVEL 0", hand.of(0, 0), 45);
        check.due("LEVEL 1", hand.of(1, 0), 28);
        check.due("LEVEL 2", hand.of(2, 0), 30);
        led(hand, 1, 1, 1, 0, 0);
        for (int i = 0; i < 6; i++) {
            hand.day();
        }
        check.due("DAY behind 6", hand.of(0, 6), 0);
        check.due("led days", hand.led(0), 7);
    }

    private static void floods() {
        RiverHand hand = Check.river(36, 30, 99);
        Check.law(hand, "0");
        check.due("one was and is OVER", hand.day(), 1);
        check.due("no flood by that", hand.led(3), 0);
        check.due("two", hand.day(), 2);
        check.due("one flood", hand.led(3), 1);
        check.due("three in count(1)", hand.count(1), 2);
        hand.mend(0, 0, 0);
        hand.gift(0, 40);
        check.due("OVER by a gift", hand.count(1), 2);
        hand.day();
        check.due("no flood by a gift", hand.led(3), 1);
        hand.mend(0, 0, 33);
        hand.day();
        check.due("a flood again", hand.led(3), 2);
    }

    private static void gift() {
        RiverHand hand = Check.river(60, 60);
        check.due("40", hand.gift(0, 40), 70);
        check.due("GIFTS", hand.of(0, 3), 1);
        check.due("held at 99", hand.gift(0, 99), 99);
        check.due("0", hand.gift(1, 0), 30);
        check.due("led", hand.led(4), 3);
        for (int i = 0; i < 8; i++) {
            check.due("more", hand.gift(1, 1), 31 + i);
        }
        check.due("GIFTS are 9", hand.gift(1, 1), RiverHand.STATE);
        check.due("LEVEL as it was", hand.of(1, 0), 38);
        check.due("led", hand.led(4), 11);
        check.due("v 100, GIFTS are 9", hand.gift(1, 100), RiverHand.BAD);
        check.due("v 100", hand.gift(0, 100), RiverHand.BAD);
        check.due("v -1", hand.gift(0, -1), RiverHand.BAD);
        check.due("reach 2", hand.gift(2, 1), RiverHand.BAD);
        check.due("reach -1", hand.gift(-1, 1), RiverHand.BAD);
        check.due("led", hand.led(4), 11);
    }

    private static void build() {
        RiverHand hand = Check.river(60, 60);
        check.due("built", hand.build(1, 1), 0);
        check.due("built again", hand.build(1, 1), 1);
        check.due("BRIDGE", hand.of(1, 2), 1);
        check.due("the other", hand.of(0, 2), 0);
        check.due("taken down", hand.build(1, 0), 1);
        check.due("taken down again", hand.build(1, 0), 0);
        check.due("how 2", hand.build(1, 2), RiverHand.BAD);
        check.due("how -1", hand.build(1, -1), RiverHand.BAD);
        check.due("reach 2", hand.build(2, 1), RiverHand.BAD);
        check.due("reach -1", hand.build(-1, 1), RiverHand.BAD);
    }

    private static void ledRefused() {
        RiverHand hand = new RiverHand();
        check.due("led(5)", hand.led(5), RiverHand.BAD);
        check.due("led(-1)", hand.led(-1), RiverHand.BAD);
    }

    private static void imageAndBack() {
        RiverHand hand = Check.river(60, 60);
        check.due("none", hand.back(), RiverHand.STATE);
        hand.day();
        hand.gift(0, 5);
        hand.build(0, 1);
        int level = hand.of(0, 0);
        int rises = hand.led(1);
        check.due("image", hand.image(), 1);
        hand.reach(50);
        hand.mend(2, 0, 77);
        hand.mend(0, 1, 44);
        hand.mend(0, 5, 8);
        hand.mend(2, 4, 6);
        hand.day();
        hand.gift(0, 9);
        hand.gift(2, 3);
        hand.build(0, 0);
        int third = hand.of(2, 0);
        check.due("back", hand.back(), 1);
        check.due("LEVEL", hand.of(0, 0), level);
        check.due("GIFTS", hand.of(0, 3), 1);
        check.due("BRIDGE", hand.of(0, 2), 1);
        check.due("DAY", hand.of(0, 6), 1);
        led(hand, 1, rises, hand.led(2), hand.led(3), 1);
        check.due("a REACH that came since", hand.of(2, 0), third);
        check.due("its GIFTS", hand.of(2, 3), 1);
        check.due("REACHES", hand.count(0), 3);
        check.due("BANK is not kept", hand.of(0, 1), 44);
        check.due("SPRING is not kept", hand.of(0, 5), 8);
        check.due("RAIN is not kept", hand.of(2, 4), 6);
        check.due("CHANGES are not kept", hand.count(3), 4);
        hand.day();
        hand.day();
        check.due("back again", hand.back(), 1);
        check.due("LEVEL", hand.of(0, 0), level);
        for (int i = 0; i < 9; i++) {
            hand.day();
        }
        check.due("a later image", hand.image(), 10);
        check.due("back to it", hand.back(), 10);
        check.due("DAY of it", hand.of(0, 6), 3);
    }

    private static void undoAndRedo() {
        RiverHand hand = Check.river(60, 60);
        hand.mend(0, 0, 40);
        hand.mend(0, 0, 40);
        hand.mend(0, 0, 50);
        hand.mend(3, 4, 5);
        hand.mend(0, 5, 9);
        hand.mend(0, 6, 6);
        check.due("telling the same is none", hand.count(3), 5);
        check.due("undo DAY", hand.undo(), 4);
        check.due("DAY", hand.of(0, 6), 0);
        check.due("undo SPRING", hand.undo(), 3);
        check.due("SPRING", hand.of(0, 5), 3);
        check.due("undo RAIN", hand.undo(), 2);
        check.due("RAIN", hand.of(3, 4), 0);
        check.due("undo LEVEL", hand.undo(), 1);
        check.due("LEVEL", hand.of(0, 0), 40);
        check.due("redo LEVEL", hand.redo(), 3);
        check.due("LEVEL", hand.of(0, 0), 50);
        check.due("redo RAIN", hand.redo(), 2);
        check.due("RAIN", hand.of(3, 4), 5);
        check.due("may be UNDONE", hand.count(3), 3);
        hand.mend(0, 1, 60);
        check.due("the same number is no other CHANGE", hand.redo(), 1);
        check.due("a BAD one", hand.mend(0, 1, 100), RiverHand.BAD);
        check.due("a BAD one is no CHANGE", hand.redo(), 0);
        check.due("none more", hand.redo(), RiverHand.STATE);
        hand.undo();
        hand.mend(1, 2, 1);
        check.due("another came behind", hand.redo(), RiverHand.STATE);
        check.due("five", hand.count(3), 5);
        for (int i = 4; i >= 0; i--) {
            check.due("undo", hand.undo(), i);
        }
        check.due("none", hand.undo(), RiverHand.STATE);
        check.due("LEVEL at first", hand.of(0, 0), 30);
        check.due("BRIDGE at first", hand.of(1, 2), 0);
    }

    private static void fortyAtMost() {
        RiverHand hand = Check.river(60);
        for (int i = 0; i < 45; i++) {
            hand.mend(0, 0, 31 + i);
            check.due("kept", hand.count(3), Math.min(i + 1, 40));
        }
        for (int i = 39; i >= 0; i--) {
            check.due("undo", hand.undo(), i);
        }
        check.due("none more", hand.undo(), RiverHand.STATE);
        check.due("the five oldest stay", hand.of(0, 0), 35);
        for (int i = 39; i >= 0; i--) {
            check.due("redo", hand.redo(), i);
        }
        check.due("as it was", hand.of(0, 0), 75);
        check.due("none more", hand.redo(), RiverHand.STATE);
        fortyOfAllSorts();
    }

    /** 63 CHANGES of unlike numbers: RAIN of the 7 DAYS by turns with LEVEL and SPRING; the 40 latest are undone. */
    private static void fortyOfAllSorts() {
        RiverHand hand = Check.river(60, 60, 60);
        for (int i = 1; i <= 21; i++) {
            hand.mend(i % 7, 4, 1 + i % 8);
            hand.mend(i % 3, 0, 40 + i);
            hand.mend(0, 5, 1 + i % 9);
        }
        check.due("forty", hand.count(3), 40);
        for (int i = 0; i < 40; i++) {
            hand.undo();
        }
        // 23 stay: seven times three, RAIN of DAY 1 (8 % 7) and LEVEL of REACH 2 (8 % 3).
        int[] rains = {8, 1, 3, 4, 5, 6, 7};
        for (int day = 0; day < 7; day++) {
            check.due("RAIN of " + day, hand.of(day, 4), rains[day]);
        }
        check.due("LEVEL 0", hand.of(0, 0), 46);
        check.due("LEVEL 1", hand.of(1, 0), 47);
        check.due("LEVEL 2", hand.of(2, 0), 48);
        check.due("SPRING", hand.of(0, 5), 8);
        for (int i = 0; i < 40; i++) {
            hand.redo();
        }
        for (int day = 0; day < 7; day++) {
            check.due("RAIN of " + day, hand.of(day, 4), 1 + (day == 0 ? 21 : 14 + day) % 8);
        }
        check.due("LEVEL 0", hand.of(0, 0), 61);
        check.due("LEVEL 1", hand.of(1, 0), 59);
        check.due("LEVEL 2", hand.of(2, 0), 60);
        check.due("SPRING", hand.of(0, 5), 4);
    }

    private static void deedsAreNone() {
        RiverHand hand = Check.river(60);
        hand.mend(0, 0, 40);
        hand.mend(0, 2, 1);
        hand.day();
        hand.gift(0, 3);
        hand.build(0, 0);
        hand.image();
        hand.back();
        check.due("two CHANGES", hand.count(3), 2);
        check.due("undo", hand.undo(), 1);
        hand.day();
        hand.gift(0, 3);
        hand.build(0, 0);
        check.due("deeds don't hinder redo", hand.redo(), 0);
        check.due("BRIDGE", hand.of(0, 2), 1);
        hand.undo();
        check.due("undo LEVEL", hand.undo(), 0);
        check.due("what it was ahead of the CHANGE", hand.of(0, 0), 30);
        check.due("GIFTS by deed", hand.of(0, 3), 2);
        check.due("DAY by deed", hand.of(0, 6), 2);
    }
}
