/** Promises 6 to 8: THE TAPE, THE LAW, its FAULTS, and what it gives. */
public final class LawTest {
    private static final Check check = new Check();

    public static void main(String[] args) {
        feed();
        faults();
        openAtOnce();
        everyNumber();
        worth();
        lines();
        names();
        lawStays();
        wholeTape();
        check.finish();
    }

    private static void feed() {
        RiverHand hand = new RiverHand();
        check.due("feed(-1)", hand.feed(-1), RiverHand.BAD);
        check.due("feed(256)", hand.feed(256), RiverHand.BAD);
        check.due("feed(0)", hand.feed(0), 1);
        check.due("feed(255)", hand.feed(255), 2);
        check.due("count(2)", hand.count(2), 2);
        check.due("law()", hand.law(), -100);
        check.due("count(2)", hand.count(2), 0);
        for (int i = 1; i <= 120; i++) {
            check.due("feed " + i, hand.feed('l'), i);
        }
        check.due("feed 121", hand.feed('l'), RiverHand.FULL);
        check.due("feed 121 that is BAD", hand.feed(300), RiverHand.BAD);
        check.due("law()", hand.law(), -101);
        check.due("count(2)", hand.count(2), 0);
    }

    private static void fault(String text, int place) {
        RiverHand hand = Check.river(60);
        check.due("law of " + text, Check.law(hand, text), -100 - place);
    }

    private static void faults() {
        String[] endTooEarly = {"", "l+", "l;", "l?", "(l", "!", "-", "(", "l|", "l&", "l<", "l*", "l/", "l%", "l-", "l?1;", "((l)"};
        for (String text : endTooEarly) {
            fault(text, text.length());
        }
        fault("x", 0);
        fault(" l", 0);
        fault("l ", 1);
        fault("ll", 1);
        fault("1l", 1);
        fault("l1", 1);
        fault("12345", 4);
        fault("(12345)", 5);
        fault("l<n<r", 3);
        fault("l=n>r", 3);
        fault("l?n?r", 3);
        fault("(l?n)", 2);
        fault("l)", 1);
        fault("()", 1);
        fault(";l", 0);
        fault("l;;l", 2);
        fault("?l", 0);
        fault("l+*n", 2);
        fault("l*+n", 2);
        fault("+l", 0);
        fault("(l;n)", 2);
        fault("L", 0);
        fault("l!n", 1);
        fault("l" + (char) 233, 1);
        fault("1+" + (char) 0, 2);
    }

    private static void openAtOnce() {
        RiverHand hand = Check.river(60);
        check.due("six brackets", Check.law(hand, "((((((l))))))"), 1);
        check.due("six of !", Check.law(hand, "!!!!!!l"), 1);
        check.due("six of -", Check.law(hand, "------l"), 1);
        check.due("six of all", Check.law(hand, "-(!(-(l))+l)"), 1);
        check.due("closed again", Check.law(hand, "((-(-(l))))+((((((l))))))-------l"), 1);
        check.due("six behind ?", Check.law(hand, "((((((l))))))?((((((l))))));------l?!!!!!!l"), 1);
        fault("l?(((((((l", 8);
        fault("(((((((l)))))))", 6);
        fault("!!!!!!!l", 6);
        fault("l--------l", 8);
        fault("-(!(-((l", 6);
        fault("((((((-l", 6);
        fault("!!!!!!(l", 6);
    }

    /** Each number of 1 to 4 digits stands for itself: none is taken for a sign's code. */
    private static void everyNumber() {
        for (int number = 0; number <= 9999; number++) {
            RiverHand hand = Check.river(60);
            hand.mend(0, 0, 99);
            check.due("law of " + number + "%20+1", Check.law(hand, number + "%20+1"), 1);
            check.due("goes(0) by " + number + "%20+1", hand.goes(0), number % 20 + 1);
            check.due("law of " + number + "/500", Check.law(hand, number + "/500"), 1);
            check.due("goes(0) by " + number + "/500", hand.goes(0), number / 500);
        }
    }

    private static void worth(String text, int due) {
        RiverHand hand = Check.river(60, 60);
        hand.mend(0, 0, 50);
        check.due("law of " + text, Check.law(hand, text), 1);
        check.due("goes by " + text, hand.goes(0), due);
    }

    private static void worth() {
        worth("7", 7);
        worth("0007", 7);
        worth("9999", 20);
        worth("-1", 0);
        worth("2+3*4", 14);
        worth("(2+1)*4", 12);
        worth("9-3-2", 4);
        worth("17/5", 3);
        worth("17%5", 2);
        worth("-17/5+9", 6);
        worth("-17%5+9", 7);
        worth("3+9/0", 3);
        worth("3+9%0", 3);
        worth("2*3%4", 2);
        worth("--5", 5);
        worth("9--5", 14);
        worth("-2*-3", 6);
        worth("!0", 1);
        worth("!7", 0);
        worth("!!7+1", 2);
        worth("5|0", 1);
        worth("0|0", 0);
        worth("5&3", 1);
        worth("5&0", 0);
        worth("1|0&0", 1);
        worth("(1|0)&0", 0);
        worth("2<3", 1);
        worth("3<3", 0);
        worth("3>2", 1);
        worth("3=3", 1);
        worth("3=2+1", 1);
        worth("(1<2)+(3>2)+5", 7);
        worth("1+1<3&2", 1);
        // 65536 * 32768 wraps to the least int, and that by -1 is itself; it is below 0.
        worth("256*256*256*128/-1<0", 1);
        worth("256*256*256*128%-1+4", 4);
        worth("256*256*256*256+6", 6);
    }

    private static void lines() {
        worth("0?5;6", 6);
        worth("1?5;6", 5);
        worth("-1?5;6", 5);
        worth("0?5", 0);
        worth("0?5;0?6", 0);
        worth("0?5;1?6;7", 6);
        worth("4;5", 4);
        worth("0;5", 0);
        worth("l>40?9;l>10?4;1", 9);
        worth("1?0;5", 0);
    }

    private static void names() {
        RiverHand hand = Check.river(60, 60);
        hand.mend(1, 0, 12);
        hand.mend(0, 3, 5);
        hand.mend(0, 2, 1);
        hand.mend(0, 6, 4);
        hand.mend(4, 4, 7);
        String[] names = {"l-20", "n", "r", "g", "b", "d"};
        int[] due = {10, 12, 7, 5, 1, 4};
        for (int i = 0; i < names.length; i++) {
            Check.law(hand, names[i]);
            check.due("goes by " + names[i], hand.goes(0), due[i]);
        }
        Check.law(hand, "n+3");
        check.due("n behind the last", hand.goes(1), 3);
        Check.law(hand, "20");
        check.due("no more than LEVEL", hand.goes(1), 12);
        hand.mend(1, 0, 0);
        check.due("nothing of nothing", hand.goes(1), 0);
    }

    private static void lawStays() {
        RiverHand hand = Check.river(60);
        Check.law(hand, "3");
        check.due("goes", hand.goes(0), 3);
        check.due("a FAULT", Check.law(hand, "4+"), -102);
        check.due("the former LAW stays", hand.goes(0), 3);
        check.due("an empty TAPE", hand.law(), -100);
        check.due("the former LAW stays", hand.goes(0), 3);
        check.due("another", Check.law(hand, "5"), 1);
        check.due("goes by it", hand.goes(0), 5);
        hand.feed('6');
        check.due("THE TAPE alone changes nothing", hand.goes(0), 5);
    }

    private static void wholeTape() {
        RiverHand hand = Check.river(60);
        StringBuilder many = new StringBuilder("0");
        while (many.length() < 117) {
            many.append("?9;0");
        }
        many.append("?9");
        check.due("a text of 119", Check.law(hand, many.toString()), 1);
        check.due("none counts", hand.goes(0), 0);
        StringBuilder deep = new StringBuilder("1");
        while (deep.length() < 119) {
            deep.append("+1");
        }
        check.due("a text of 119", Check.law(hand, deep + ";"), -220);
        check.due("a text of 119", Check.law(hand, deep.toString()), 1);
        check.due("60 held at 20", hand.goes(0), 20);
        check.due("a text of 120", Check.law(hand, "!" + deep), 1);
        check.due("0 and 59 held at 20", hand.goes(0), 20);
        StringBuilder lines = new StringBuilder("0?1");
        while (lines.length() < 118) {
            lines.append(";!1?1");
        }
        check.due("many lines", Check.law(hand, lines.substring(0, 113) + ";11"), 1);
        check.due("the last counts", hand.goes(0), 11);
    }
}
