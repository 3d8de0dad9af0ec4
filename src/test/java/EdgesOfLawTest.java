/** The edges that the document names of THE TAPE and THE LAW: Terms 1; promises 6 and 7. */
public final class EdgesOfLawTest {
    private static final Check check = new Check();

    public static void main(String[] args) {
        atMost120Bytes();
        oneOrMoreLines();
        lineWithAFirst();
        either();
        both();
        compared();
        sums();
        products();
        operands();
        digits();
        noBlanks();
        names();
        nextBehindTheLast();
        openAtOnce();
        openOfEachSort();
        closedAgain();
        intsThatWrap();
        towardZero();
        byZero();
        oneOrZero();
        allIsWorkedOut();
        firstLineThatCounts();
        noneCounts();
        firstByteWithWhichNoneGoesOn();
        endsTooEarly();
        heldWithin();
        noMoreThanLevel();
        outBehindTheLast();
        feed();
        law();
        tapeIsEmptyThen();
        check.finish();
    }

    private static void fault(String text, int place) {
        RiverHand hand = Check.river(60);
        check.due("law of " + text, Check.law(hand, text), -100 - place);
    }

    private static void good(String text) {
        check.due("law of " + text, Check.law(Check.river(60), text), 1);
    }

    /** What goes by a text from a REACH with LEVEL 99. */
    private static void worth(String text, int due) {
        RiverHand hand = Check.river(60);
        hand.mend(0, 0, 99);
        check.due("law of " + text, Check.law(hand, text), 1);
        check.due("goes by " + text, hand.goes(0), due);
    }

    private static String repeated(String part, int times, String end) {
        return part.repeat(times) + end;
    }

    private static void atMost120Bytes() {
        check.says("THE LAW is a TEXT by THE TAPE (at most 120 bytes)");
        RiverHand hand = Check.river(60);
        String text = repeated("0?9;", 29, "0+13");
        check.due("its bytes", text.length(), 120);
        check.due("a TEXT of 120 bytes", Check.law(hand, text), 1);
        check.due("its last LINE counts", hand.goes(0), 13);
        check.due("one byte more is not there: 0+1", Check.law(hand, repeated("0?9;", 29, "00+12")), 1);
        check.due("the 121st is none of it", hand.goes(0), 1);
        String numbers = repeated("1+", 59, "-1");
        check.due("60 numbers", Check.law(hand, numbers), 1);
        check.due("59 - 1, held", hand.goes(0), 20);
        String names = repeated("l*", 59, "!l");
        check.due("60 NAMES", Check.law(hand, names), 1);
        check.due("by 0", hand.goes(0), 0);
    }

    private static void oneOrMoreLines() {
        check.says("LINES, one or more, parted by ;");
        fault("", 0);
        good("1");
        good("1;2");
        good(repeated("1;", 59, "2"));
        fault(";", 0);
        fault("1;", 2);
        fault(";1", 0);
        fault("1;;2", 2);
    }

    private static void lineWithAFirst() {
        check.says("LINE: E, or E ? E (what counts if the first is not 0)");
        worth("1?7", 7);
        worth("-1?7", 7);
        worth("0?7;8", 8);
        worth("1?0;8", 0);
        fault("?1", 0);
        fault("1?", 2);
        fault("1?2?3", 3);
        fault("(1?2)", 2);
        fault("1?;2", 2);
    }

    private static void either() {
        check.says("E = A { | A }");
        worth("0|0|3", 1);
        worth("0|0|0", 0);
        worth("1|1&0", 1);
        fault("|1", 0);
        fault("1|", 2);
        fault("1||2", 2);
    }

    private static void both() {
        check.says("A = B { & B }");
        worth("1&2&3", 1);
        worth("1&2&0", 0);
        worth("1&2=2", 1);
        fault("&1", 0);
        fault("1&", 2);
        fault("1&&2", 2);
    }

    private static void compared() {
        check.says("B = S, or S < S, S = S, S > S");
        worth("1+2=3", 1);
        fault("1<2<3", 3);
        fault("1=2=3", 3);
        fault("1>2>3", 3);
        fault("1<2=3", 3);
        good("1<2&2<3");
        good("(1<2)<3");
        fault("<1", 0);
        fault("1<", 2);
        fault("1<=2", 2);
        fault("1>=2", 2);
        fault("1==2", 2);
    }

    private static void sums() {
        check.says("S = P { + P, - P }");
        worth("9-3-2", 4);
        worth("9-3+2", 8);
        worth("1+2*3", 7);
        fault("+1", 0);
        fault("1+", 2);
        fault("1-", 2);
        fault("1++2", 2);
        worth("3--2", 5);
    }

    private static void products() {
        check.says("P = O { * O, / O, % O }");
        worth("40/4/5", 2);
        worth("40/4*2", 20);
        worth("17%10*2", 14);
        worth("2*17%10", 4);
        fault("*1", 0);
        fault("/1", 0);
        fault("%1", 0);
        fault("1*", 2);
        fault("1/", 2);
        fault("1%", 2);
        fault("1**2", 2);
    }

    private static void operands() {
        check.says("O = a number (1 to 4 digits), a NAME, ! O, - O, ( E ).");
        worth("(0|5)+(1<2)", 2);
        worth("!0+4", 5);
        worth("-2*-3", 6);
        worth("-2+9", 7);
        fault("()", 1);
        fault("(1", 2);
        fault("1)", 1);
        fault("!", 1);
        fault("-", 1);
        fault("2l", 1);
        fault("l2", 1);
        fault("ln", 1);
        fault("1(2)", 1);
        fault("(1)2", 3);
        fault("1!2", 1);
    }

    private static void digits() {
        check.says("a number (1 to 4 digits)");
        worth("7", 7);
        worth("0007", 7);
        worth("9999-9983", 16);
        worth("0", 0);
        worth("0000", 0);
        fault("12345", 4);
        fault("00001", 4);
        fault("1+99999", 6);
        fault("-12345", 5);
    }

    private static void noBlanks() {
        check.says("No blanks.");
        fault(" 1", 0);
        fault("1 ", 1);
        fault("1 +2", 1);
        fault("1+ 2", 2);
        fault("1;\n2", 2);
        fault("1\t", 1);
    }

    private static RiverHand named() {
        RiverHand hand = Check.river(60, 60);
        hand.mend(0, 0, 11);
        hand.mend(1, 0, 12);
        hand.mend(0, 2, 1);
        hand.mend(0, 3, 9);
        hand.mend(0, 6, 6);
        hand.mend(6, 4, 8);
        return hand;
    }

    private static void names() {
        check.says("NAMES: l LEVEL, n LEVEL of the next REACH (0 behind the last), r RAIN of the DAY, g GIFTS, b BRIDGE, d DAY.");
        String names = "lnrgbd";
        int[] due = {11, 12, 8, 9, 1, 6};
        RiverHand hand = named();
        for (int i = 0; i < due.length; i++) {
            check.due("law", Check.law(hand, names.substring(i, i + 1)), 1);
            check.due("goes by " + names.charAt(i), hand.goes(0), Math.min(due[i], 11));
            Check.law(hand, names.charAt(i) + "-" + due[i] + "+3");
            check.due("is just " + due[i], hand.goes(0), 3);
        }
        for (int letter = 0; letter <= 255; letter++) {
            boolean begins = names.indexOf(letter) >= 0 || letter >= '0' && letter <= '9';
            boolean opens = letter == '(' || letter == '!' || letter == '-';
            fault(String.valueOf((char) letter), opens ? 1 : 0, begins);
        }
    }

    private static void fault(String text, int place, boolean isNone) {
        check.due("law of byte " + (int) text.charAt(0), Check.law(new RiverHand(), text), isNone ? 1 : -100 - place);
    }

    private static void nextBehindTheLast() {
        check.says("n LEVEL of the next REACH (0 behind the last)");
        RiverHand hand = named();
        Check.law(hand, "n+4");
        check.due("of the last", hand.goes(1), 4);
        Check.law(hand, "n-9");
        check.due("of the one ahead", hand.goes(0), 3);
        hand.reach(60);
        check.due("of the last no more", hand.goes(1), 12);
        RiverHand full = Check.river(60, 60, 60, 60, 60, 60, 60, 60);
        Check.law(full, "n+4");
        check.due("of the eighth", full.goes(7), 4);
    }

    private static void openAtOnce() {
        check.says("At most 6 of ( ! - ahead of an O are open at once.");
        good("((((((1))))))");
        fault("(((((((1)))))))", 6);
        good("!!!!!!1");
        fault("!!!!!!!1", 6);
        good("------1");
        fault("-------1", 6);
        good("1-------1");
        fault("1--------1", 8);
    }

    private static void openOfEachSort() {
        check.says("At most 6 of ( ! - ahead of an O");
        good("(!-(!-1))");
        fault("(!-(!-(1)))", 6);
        fault("(!-(!-!1))", 6);
        fault("(!-(!--1))", 6);
        fault("((((((-1))))))", 6);
        good("((((((1-1))))))");
    }

    private static void closedAgain() {
        check.says("are open at once.");
        good("((((((1))))))+((((((1))))))");
        good("!!!!!!1*------1");
        good("!(!(!(1)+!!1))");
        fault("!(!(!(1)+!!!1))", 11);
        good("(((((-1+-1)))))");
        fault("(((((-1+--1)))))", 9);
        good("((((((1))))))?((((((1))))));((((((1))))))");
    }

    private static void intsThatWrap() {
        check.says("Ints that wrap");
        worth("4096*4096*128>0", 0);
        worth("4096*4096*128-1>0", 1);
        worth("4096*4096*256+7", 7);
        worth("0-(4096*4096*128)<0", 1);
        worth("-(4096*4096*128)<0", 1);
        worth("4096*4096*128/-1<0", 1);
        worth("4096*4096*128%-1+5", 5);
        worth("-(4096*4096*128)-1>0", 1);
    }

    private static void towardZero() {
        check.says("/ and % toward 0");
        worth("17/5", 3);
        worth("17%5", 2);
        worth("-17/5+10", 7);
        worth("17/-5+10", 7);
        worth("-17/-5", 3);
        worth("-17%5+10", 8);
        worth("17%-5", 2);
        worth("-17%-5+10", 8);
    }

    private static void byZero() {
        check.says("by 0 they give 0");
        worth("9/0+5", 5);
        worth("9%0+5", 5);
        worth("-9/0+5", 5);
        worth("-9%0+5", 5);
        worth("0/0+5", 5);
        worth("9/b+5", 5);
        worth("9%(1-1)+5", 5);
    }

    private static void oneOrZero() {
        check.says("| & < = > ! give 1, 0");
        worth("(5|6)+10", 11);
        worth("(0|6)+10", 11);
        worth("(5|0)+10", 11);
        worth("(0|0)+10", 10);
        worth("(5&6)+10", 11);
        worth("(2&1)+10", 11);
        worth("(5&0)+10", 10);
        worth("(0&5)+10", 10);
        worth("(-5&-1)+10", 11);
        worth("(2<3)+10", 11);
        worth("(3<3)+10", 10);
        worth("(4<3)+10", 10);
        worth("(3=3)+10", 11);
        worth("(3=4)+10", 10);
        worth("(4>3)+10", 11);
        worth("(3>3)+10", 10);
        worth("(2>3)+10", 10);
        worth("(-1<0)+10", 11);
        worth("!0+10", 11);
        worth("!7+10", 10);
        worth("!-7+10", 10);
    }

    private static void allIsWorkedOut() {
        check.says("all is worked out");
        worth("(0&9/0)+10", 10);
        worth("(1|9%0)+10", 11);
        worth("0?9/0;4", 4);
    }

    private static void firstLineThatCounts() {
        check.says("The first LINE without a first E, or whose first E is not 0, counts");
        worth("4;5", 4);
        worth("0;5", 0);
        worth("1?4;5", 4);
        worth("0?4;5;6", 5);
        worth("0?4;-1?5;6", 5);
        worth("0?4;1?0;6", 0);
        worth("0?4;0?5;1?6;7", 6);
        worth("5-5?4;6", 6);
    }

    private static void noneCounts() {
        check.says("none: 0.");
        worth("0?5", 0);
        worth("0?5;0?6", 0);
        worth("1-1?5;2<1?6;!1?7", 0);
    }

    private static void firstByteWithWhichNoneGoesOn() {
        check.says("FAULT: the place (from 0) of the first byte with which no TEXT goes on");
        fault("x+1", 0);
        fault("1x+", 1);
        fault("1+x", 2);
        fault("1?2;3)", 5);
        fault("((1+2)*3", 8);
        fault("((1+2)*3;", 8);
        fault("1;2;3;4;)", 8);
        fault("1+2" + (char) 0, 3);
        fault("1+2" + (char) 128, 3);
        fault("1+2" + (char) 255, 3);
        fault(repeated("1+", 59, "1x"), 119);
        fault(repeated("1+", 59, "x1"), 118);
    }

    private static void endsTooEarly() {
        check.says("the length, if it ends too early.");
        String[] early = {"", "(", "!", "-", "1+", "1-", "1*", "1/", "1%", "1<", "1=", "1>", "1&", "1|", "1?", "1;",
            "(1", "((1)", "1?2;", "1?2;3?", "-(", "l?n+", "!!!!!!", "(((((("};
        for (String text : early) {
            fault(text, text.length());
        }
        fault(repeated("1+", 60, ""), 120);
        fault(repeated("1;", 60, ""), 120);
    }

    private static void heldWithin() {
        check.says("(held within 0 .. 20, and no more than LEVEL)");
        worth("-1", 0);
        worth("-9999", 0);
        worth("0", 0);
        worth("1", 1);
        worth("19", 19);
        worth("20", 20);
        worth("21", 20);
        worth("9999", 20);
    }

    private static void noMoreThanLevel() {
        check.says("and no more than LEVEL");
        RiverHand hand = Check.river(60);
        Check.law(hand, "15");
        int[][] rows = {{0, 0}, {1, 1}, {14, 14}, {15, 15}, {16, 15}};
        for (int[] row : rows) {
            hand.mend(0, 0, row[0]);
            check.due("of LEVEL " + row[0], hand.goes(0), row[1]);
        }
    }

    private static void outBehindTheLast() {
        check.says("It gives how much goes from a REACH to the next one (out behind the last) in a day");
        RiverHand hand = Check.river(99, 99, 99);
        hand.mend(0, 5, 0);
        Check.law(hand, "7");
        check.due("the first", hand.later(1, 0, 0), 23);
        check.due("what comes goes", hand.later(1, 1, 0), 30);
        check.due("what comes goes out", hand.later(1, 2, 0), 30);
        check.due("all", hand.river(1, 1), 83);
        Check.law(hand, "n=0?7;0");
        check.due("the last alone", hand.later(1, 2, 0), 23);
        check.due("to none of them", hand.river(1, 1), 83);
        check.due("not to the first", hand.later(1, 0, 0), 30);
    }

    private static void feed() {
        check.says("A byte (0 .. 255) comes to THE TAPE: how many it has. BAD, FULL (120).");
        RiverHand hand = new RiverHand();
        int[] none = {-1, 256, -128, Integer.MIN_VALUE, Integer.MAX_VALUE};
        for (int letter : none) {
            check.due("feed(" + letter + ")", hand.feed(letter), RiverHand.BAD);
        }
        check.due("none yet", hand.count(2), 0);
        check.due("feed(0)", hand.feed(0), 1);
        check.due("feed(255)", hand.feed(255), 2);
        for (int i = 3; i <= 120; i++) {
            check.due("feed " + i, hand.feed('1'), i);
        }
        check.due("the 121st", hand.feed('1'), RiverHand.FULL);
        check.due("BAD ahead of FULL", hand.feed(256), RiverHand.BAD);
        check.due("120", hand.count(2), 120);
    }

    private static void law() {
        check.says("THE TAPE becomes THE LAW: 1; -100 less its FAULT");
        RiverHand hand = Check.river(60);
        check.due("without a text", hand.goes(0), 6);
        check.due("FAULT 0 of an empty TAPE", hand.law(), -100);
        check.due("no LAW by that", hand.goes(0), 6);
        check.due("a LAW", Check.law(hand, "9"), 1);
        check.due("by it", hand.goes(0), 9);
        check.due("FAULT 3", Check.law(hand, "4;5x"), -103);
        check.due("the LAW that was", hand.goes(0), 9);
        check.due("a shorter LAW", Check.law(hand, "5"), 1);
        check.due("by that", hand.goes(0), 5);
        check.due("a longer LAW", Check.law(hand, "0?1;0?2;7"), 1);
        check.due("by that", hand.goes(0), 7);
        check.due("FAULT of an empty TAPE", hand.law(), -100);
        check.due("the LAW that was", hand.goes(0), 7);
    }

    private static void tapeIsEmptyThen() {
        check.says("THE TAPE is empty then.");
        RiverHand hand = Check.river(60);
        Check.law(hand, "12");
        check.due("behind a LAW", hand.count(2), 0);
        check.due("the next byte is the first", hand.feed('3'), 1);
        check.due("its LAW", hand.law(), 1);
        check.due("by 3 alone", hand.goes(0), 3);
        Check.law(hand, "1+");
        check.due("behind a FAULT", hand.count(2), 0);
        check.due("the next byte is the first", hand.feed('4'), 1);
        check.due("its LAW", hand.law(), 1);
        check.due("by 4 alone", hand.goes(0), 4);
        for (int i = 0; i < 121; i++) {
            hand.feed('x');
        }
        check.due("a FULL one", hand.law(), -100);
        check.due("has room again", hand.feed('5'), 1);
    }
}
