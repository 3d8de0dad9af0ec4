import java.util.ArrayList;
import java.util.LinkedHashMap;
import java.util.List;
import java.util.Map;
import java.util.function.Function;
import java.util.function.Supplier;
import java.util.function.ToLongFunction;

/**
 * "What is answered so changes nothing": each call that is refused, and each that only thinks or tells, is made on one
 * of two like objects; what can be seen of both must be the same then.
 */
public final class RefusedCallsTest {
    private static final Check check = new Check();
    private static final int BAD = RiverHand.BAD, NOT = RiverHand.NOT, FULL = RiverHand.FULL, STATE = RiverHand.STATE;
    private static final int VOID = RiverHand.VOID;
    private static final int LEAST = Integer.MIN_VALUE, MOST = Integer.MAX_VALUE;

    private final Supplier<RiverHand> made;
    private final List<Long> untouched;
    private final Map<String, ToLongFunction<RiverHand>> calls = new LinkedHashMap<>();
    private final Map<String, Long> answers = new LinkedHashMap<>();

    private RefusedCallsTest(Supplier<RiverHand> made) {
        this.made = made;
        untouched = seen(made.get());
    }

    public static void main(String[] args) {
        refusedOfReaches();
        refusedInThought();
        refusedOfGauges();
        refusedInDeed();
        refusedOfShelves();
        refusedWhenFull();
        refusedOfANewObject();
        notChangesNothing();
        ofSeveralTheFirst();
        onlyThoughtOrTold();
        noTraceByNoSuchAct();
        check.finish();
    }

    private void add(String call, long answer, ToLongFunction<RiverHand> made) {
        calls.put(call, made);
        answers.put(call, answer);
    }

    private void run() {
        for (Map.Entry<String, ToLongFunction<RiverHand>> call : calls.entrySet()) {
            RiverHand hand = made.get();
            check.due(call.getKey(), call.getValue().applyAsLong(hand), answers.get(call.getKey()));
            check.due("what is seen behind " + call.getKey(), seen(hand).equals(untouched) ? 1 : 0, 1);
        }
    }

    /** Three REACHES, THE TAPE begun, CHANGES made and UNDONE, an image, bodies, a TRACE, rows; some 100 calls. */
    private static RiverHand busy() {
        RiverHand hand = Check.river(60, 50, 40);
        hand.mend(0, 4, 5);
        hand.mend(1, 3, 9);
        Check.law(hand, "l/4-b+r/2");
        hand.gift(0, 7);
        hand.build(2, 1);
        hand.day();
        hand.image();
        hand.day();
        hand.gift(2, 3);
        hand.mend(0, 5, 6);
        hand.mend(2, 0, 33);
        hand.undo();
        hand.feed('d');
        hand.feed('+');
        hand.feed('2');
        hand.body(3);
        hand.body(7);
        hand.act(1, 3, 9);
        Check.bytes(hand, 0, 10, 20, 3, 1, 1);
        hand.row(1, 1, 2);
        hand.put(1, 1, 300);
        hand.keep(2, 0);
        hand.row(4, 3, 3);
        hand.put(4, 2, 1L << 50);
        return hand;
    }

    /** All that is FULL: REACHES, THE TAPE, BODIES, GIFTS of one. */
    private static RiverHand full() {
        RiverHand hand = Check.river(60, 60, 60, 60, 60, 60, 60, 60);
        hand.mend(7, 3, 9);
        for (int i = 0; i < 60; i++) {
            hand.feed('1');
            hand.feed(i < 59 ? '+' : '3');
        }
        for (int i = 0; i < 50; i++) {
            hand.body(i % 8);
        }
        Check.bytes(hand, 0, 10, 20, 3);
        return hand;
    }

    /** All that can be seen of an object; this uses it up. */
    private static List<Long> seen(RiverHand hand) {
        List<Long> all = new ArrayList<>();
        for (int what = 0; what <= 5; what++) {
            all.add((long) hand.count(what));
        }
        for (int i = 0; i < hand.count(5); i++) {
            all.add((long) hand.trace(i));
        }
        numbers(hand, all);
        for (int shelf = 0; shelf <= 5; shelf++) {
            all.add((long) hand.taken(shelf, 0));
            for (int i = 0; i <= 5; i++) {
                all.add(hand.element(shelf, i));
            }
        }
        all.add((long) hand.redo());
        all.add((long) hand.redo());
        numbers(hand, all);
        all.add((long) hand.law());
        all.add((long) hand.goes(0));
        for (int i = 0; i < 5; i++) {
            all.add((long) hand.undo());
        }
        numbers(hand, all);
        all.add((long) hand.back());
        numbers(hand, all);
        return all;
    }

    private static void numbers(RiverHand hand, List<Long> all) {
        int reaches = hand.count(0);
        for (int what = 0; what <= 3; what++) {
            for (int reach = 0; reach < reaches; reach++) {
                all.add((long) hand.of(reach, what));
            }
        }
        for (int day = 0; day <= 6; day++) {
            all.add((long) hand.of(day, 4));
        }
        all.add((long) hand.of(0, 5));
        all.add((long) hand.of(0, 6));
        for (int what = 0; what <= 4; what++) {
            all.add((long) hand.led(what));
        }
        for (int reach = 0; reach < reaches; reach++) {
            all.add((long) hand.goes(reach));
        }
    }

    private static void refusedOfReaches() {
        check.says("BAD (-1): no such number, or it is not as said");
        RefusedCallsTest test = new RefusedCallsTest(RefusedCallsTest::busy);
        test.add("reach(0)", BAD, hand -> hand.reach(0));
        test.add("reach(100)", BAD, hand -> hand.reach(100));
        test.add("reaches(6, 0, 1)", BAD, hand -> hand.reaches(6, 0, 1));
        test.add("reaches(0, 0, 0)", BAD, hand -> hand.reaches(0, 0, 0));
        test.add("reaches(0, 0, 9)", BAD, hand -> hand.reaches(0, 0, 9));
        test.add("reaches(1, 0, 1)", -12, hand -> hand.reaches(1, 0, 1));
        test.add("reaches(2, 0, 1)", -12, hand -> hand.reaches(2, 0, 1));
        test.add("reaches(3, 0, 1)", 0, hand -> hand.reaches(3, 0, 1));
        test.add("reaches(0, 3, 1)", 0, hand -> hand.reaches(0, 3, 1));
        test.add("reaches(0, -1, 1)", 0, hand -> hand.reaches(0, -1, 1));
        for (int what = 0; what <= 6; what++) {
            int of = what;
            test.add("mend(0, " + what + ", 100)", BAD, hand -> hand.mend(0, of, 100));
            test.add("mend(0, " + what + ", -1)", BAD, hand -> hand.mend(0, of, -1));
            test.add("mend(7, " + what + ", 1)", BAD, hand -> hand.mend(7, of, 1));
            test.add("mend(-1, " + what + ", 1)", BAD, hand -> hand.mend(-1, of, 1));
            test.add("of(7, " + what + ")", BAD, hand -> hand.of(7, of));
        }
        test.add("mend(0, 7, 1)", BAD, hand -> hand.mend(0, 7, 1));
        test.add("mend(0, -1, 1)", BAD, hand -> hand.mend(0, -1, 1));
        test.add("feed(-1)", BAD, hand -> hand.feed(-1));
        test.add("feed(256)", BAD, hand -> hand.feed(256));
        test.add("goes(3)", BAD, hand -> hand.goes(3));
        test.run();
    }

    private static void refusedInThought() {
        check.says("no such number, or it is not as said");
        RefusedCallsTest test = new RefusedCallsTest(RefusedCallsTest::busy);
        test.add("later(61, 0, 0)", BAD, hand -> hand.later(61, 0, 0));
        test.add("later(0, 0, 1)", BAD, hand -> hand.later(0, 0, 1));
        test.add("later(1, 3, 0)", BAD, hand -> hand.later(1, 3, 0));
        test.add("river(61, 0)", BAD, hand -> hand.river(61, 0));
        test.add("river(0, 2)", BAD, hand -> hand.river(0, 2));
        test.add("over(3)", BAD, hand -> hand.over(3));
        test.add("over(-2)", BAD, hand -> hand.over(-2));
        test.add("signs(61, 0, 0)", BAD, hand -> hand.signs(61, 0, 0));
        test.add("signs(1, 0, 3)", BAD, hand -> hand.signs(1, 0, 3));
        test.add("throwIn(3, 0)", BAD, hand -> hand.throwIn(3, 0));
        test.add("throwIn(30, 0)", BAD, hand -> hand.throwIn(30, 0));
        test.add("throwIn(0, 2100)", BAD, hand -> hand.throwIn(0, 2100));
        test.add("bridges(21, 0)", BAD, hand -> hand.bridges(21, 0));
        test.add("bridges(1, 2)", BAD, hand -> hand.bridges(1, 2));
        test.add("byTurns(0, 100, 0)", VOID, hand -> hand.byTurns(0, 100, 0));
        test.add("byTurns(3, 100, 0)", VOID, hand -> hand.byTurns(3, 100, 0));
        test.add("byTurns(1, 600, 0)", VOID, hand -> hand.byTurns(1, 600, 0));
        test.add("drawn(1, 310100, 0)", BAD, hand -> hand.drawn(1, 310100, 0));
        test.add("drawn(1, 10113, 0)", BAD, hand -> hand.drawn(1, 10113, 0));
        test.run();
    }

    private static void refusedOfGauges() {
        check.says("-11 nothing is there where something is wanted; -12 it is of another kind");
        RefusedCallsTest test = new RefusedCallsTest(RefusedCallsTest::busy);
        test.add("ring(3, 0)", BAD, hand -> hand.ring(3, 0));
        test.add("ring(0, 61)", BAD, hand -> hand.ring(0, 61));
        test.add("judge(6, 0)", BAD, hand -> hand.judge(6, 0));
        test.add("judge(3, 0)", -11, hand -> hand.judge(3, 0));
        test.add("judge(1, 0)", -12, hand -> hand.judge(1, 0));
        test.add("judge(2, 0)", -12, hand -> hand.judge(2, 0));
        test.add("fits(0, 0, 7, 0)", BAD, hand -> hand.fits(0, 0, 7, 0));
        test.add("fits(0, 0, 3, 2)", BAD, hand -> hand.fits(0, 0, 3, 2));
        test.add("fits(3, 0, 0, 4)", -11, hand -> hand.fits(3, 0, 0, 4));
        test.add("fits(4, 0, 0, 4)", -12, hand -> hand.fits(4, 0, 0, 4));
        test.add("hears(3, 0)", Long.MIN_VALUE, hand -> hand.hears(3, 0));
        test.add("hears(0, 2)", Long.MIN_VALUE, hand -> hand.hears(0, 2));
        test.add("odd(1, 0)", VOID, hand -> hand.odd(1, 0));
        test.add("odd(0, 2)", VOID, hand -> hand.odd(0, 2));
        test.run();
    }

    private static void refusedInDeed() {
        check.says("FULL (-3); STATE (-5): as told; -11 to -14. VOID is -2000000000. What is answered so changes nothing.");
        RefusedCallsTest test = new RefusedCallsTest(RefusedCallsTest::busy);
        test.add("gift(3, 1)", BAD, hand -> hand.gift(3, 1));
        test.add("gift(0, 100)", BAD, hand -> hand.gift(0, 100));
        test.add("gift(0, -1)", BAD, hand -> hand.gift(0, -1));
        test.add("gift(1, 5)", STATE, hand -> hand.gift(1, 5));
        test.add("build(3, 1)", BAD, hand -> hand.build(3, 1));
        test.add("build(0, 2)", BAD, hand -> hand.build(0, 2));
        test.add("build(2, -1)", BAD, hand -> hand.build(2, -1));
        test.add("led(5)", BAD, hand -> hand.led(5));
        test.add("led(-1)", BAD, hand -> hand.led(-1));
        test.run();
    }

    private static void refusedOfShelves() {
        check.says("-13 a place that is not there; -14 a size below 0.");
        RefusedCallsTest test = new RefusedCallsTest(RefusedCallsTest::busy);
        test.add("body(8)", BAD, hand -> hand.body(8));
        test.add("trace(24)", BAD, hand -> hand.trace(24));
        test.add("keep(0, 2)", BAD, hand -> hand.keep(0, 2));
        test.add("keep(0, -2)", BAD, hand -> hand.keep(0, -2));
        test.add("keep(6, 0)", BAD, hand -> hand.keep(6, 0));
        test.add("row(0, 5, 1)", BAD, hand -> hand.row(0, 5, 1));
        test.add("row(0, 0, 61)", BAD, hand -> hand.row(0, 0, 61));
        test.add("row(0, 0, -1)", -14, hand -> hand.row(0, 0, -1));
        test.add("row(2, 0, -1)", -14, hand -> hand.row(2, 0, -1));
        test.add("put(6, 0, 1)", BAD, hand -> hand.put(6, 0, 1));
        test.add("put(3, 0, 1)", -11, hand -> hand.put(3, 0, 1));
        test.add("put(2, 0, 1)", -12, hand -> hand.put(2, 0, 1));
        test.add("put(0, 5, 1)", -13, hand -> hand.put(0, 5, 1));
        test.add("put(0, -1, 1)", -13, hand -> hand.put(0, -1, 1));
        test.add("element(0, 5)", Long.MIN_VALUE, hand -> hand.element(0, 5));
        test.add("shift(0, 0, 6, 0, 1)", BAD, hand -> hand.shift(0, 0, 6, 0, 1));
        test.add("shift(0, 0, 3, 0, 1)", -11, hand -> hand.shift(0, 0, 3, 0, 1));
        test.add("shift(0, 0, 1, 0, 1)", -12, hand -> hand.shift(0, 0, 1, 0, 1));
        test.add("shift(0, 0, 0, 1, 5)", -13, hand -> hand.shift(0, 0, 0, 1, 5));
        test.add("shift(0, 1, 0, 0, 5)", -13, hand -> hand.shift(0, 1, 0, 0, 5));
        test.add("shift(0, 0, 0, 1, -1)", -13, hand -> hand.shift(0, 0, 0, 1, -1));
        test.add("taken(0, 8)", BAD, hand -> hand.taken(0, 8));
        test.add("taken(3, 0)", -11, hand -> hand.taken(3, 0));
        test.add("taken(2, 5)", -12, hand -> hand.taken(2, 5));
        test.add("count(6)", BAD, hand -> hand.count(6));
        test.run();
    }

    private static void refusedWhenFull() {
        check.says("FULL (-3)");
        RefusedCallsTest test = new RefusedCallsTest(RefusedCallsTest::full);
        test.add("reach(60)", FULL, hand -> hand.reach(60));
        test.add("feed(49)", FULL, hand -> hand.feed(49));
        test.add("body(0)", FULL, hand -> hand.body(0));
        test.add("reaches(0, 0, 1)", 0, hand -> hand.reaches(0, 0, 1));
        test.add("gift(7, 1)", STATE, hand -> hand.gift(7, 1));
        test.add("redo()", STATE, hand -> hand.redo());
        test.add("back()", STATE, hand -> hand.back());
        test.run();
    }

    private static void refusedOfANewObject() {
        check.says("STATE (-5): as told");
        RefusedCallsTest test = new RefusedCallsTest(RiverHand::new);
        test.add("undo()", STATE, hand -> hand.undo());
        test.add("redo()", STATE, hand -> hand.redo());
        test.add("back()", STATE, hand -> hand.back());
        test.add("gift(0, 0)", BAD, hand -> hand.gift(0, 0));
        test.add("build(0, 0)", BAD, hand -> hand.build(0, 0));
        test.add("keep(0, 0)", BAD, hand -> hand.keep(0, 0));
        test.add("reaches(0, 0, 8)", 0, hand -> hand.reaches(0, 0, 8));
        test.run();
    }

    private static void notChangesNothing() {
        check.says("NOT (-2): as told");
        Supplier<RiverHand> calm = () -> {
            RiverHand hand = Check.calm(60, 61);
            Check.bytes(hand, 0, 30, 30);
            Check.bytes(hand, 1, 31);
            return hand;
        };
        RefusedCallsTest test = new RefusedCallsTest(calm);
        test.add("over(0)", NOT, hand -> hand.over(0));
        test.add("over(-1)", NOT, hand -> hand.over(-1));
        test.add("throwIn(0, 60)", NOT, hand -> hand.throwIn(0, 60));
        test.add("ring(0, -1)", NOT, hand -> hand.ring(0, -1));
        test.add("judge(0, 0)", NOT, hand -> hand.judge(0, 0));
        test.add("fits(1, 0, 0, 1)", NOT, hand -> hand.fits(1, 0, 0, 1));
        test.add("fits(1, 0, 1, 3)", NOT, hand -> hand.fits(1, 0, 1, 3));
        test.run();
    }

    private static void ofSeveralTheFirst() {
        check.says("Answers, of several the one named first");
        RefusedCallsTest busy = new RefusedCallsTest(RefusedCallsTest::busy);
        busy.add("BAD ahead of -12, reaches", BAD, hand -> hand.reaches(1, 0, 9));
        busy.add("BAD ahead of -11, judge", BAD, hand -> hand.judge(3, 3));
        busy.add("BAD ahead of -12, judge", BAD, hand -> hand.judge(1, 3));
        busy.add("BAD ahead of -11, fits", BAD, hand -> hand.fits(3, 0, 3, 2));
        busy.add("BAD ahead of -12, fits", BAD, hand -> hand.fits(1, 0, 0, 5));
        busy.add("BAD ahead of STATE, gift", BAD, hand -> hand.gift(1, 100));
        busy.add("BAD ahead of -14, row", BAD, hand -> hand.row(0, 5, -1));
        busy.add("BAD ahead of -14, row", BAD, hand -> hand.row(6, 0, -1));
        busy.add("-11 ahead of -13, put", -11, hand -> hand.put(3, -1, 1));
        busy.add("-12 ahead of -13, put", -12, hand -> hand.put(2, 60, 1));
        busy.add("BAD ahead of -11, shift", BAD, hand -> hand.shift(3, 0, 6, 0, 1));
        busy.add("BAD ahead of -12, shift", BAD, hand -> hand.shift(-1, 0, 2, 0, 1));
        busy.add("-11 ahead of -12, shift", -11, hand -> hand.shift(2, 0, 3, 0, 1));
        busy.add("-11 ahead of -13, shift", -11, hand -> hand.shift(3, 0, 0, LEAST, MOST));
        busy.add("-12 ahead of -13, shift", -12, hand -> hand.shift(0, LEAST, 1, 0, MOST));
        busy.add("BAD ahead of -11, taken", BAD, hand -> hand.taken(3, -1));
        busy.add("BAD ahead of -12, taken", BAD, hand -> hand.taken(0, 8));
        busy.run();
        RefusedCallsTest full = new RefusedCallsTest(RefusedCallsTest::full);
        full.add("BAD ahead of FULL, reach", BAD, hand -> hand.reach(0));
        full.add("BAD ahead of FULL, feed", BAD, hand -> hand.feed(256));
        full.add("BAD ahead of FULL, body", BAD, hand -> hand.body(-1));
        full.run();
    }

    /** What is only thought or told: the answer is that of a like object, and nothing else is changed. */
    private static void onlyThoughtOrTold() {
        check.says("IN THOUGHT, behind n (0 .. 60) days");
        RefusedCallsTest test = new RefusedCallsTest(RefusedCallsTest::busy);
        test.addLike("later(60, 2, 0)", hand -> (long) hand.later(60, 2, 0));
        test.addLike("later(9, 1, 1)", hand -> (long) hand.later(9, 1, 1));
        test.addLike("river(60, 0)", hand -> (long) hand.river(60, 0));
        test.addLike("river(33, 1)", hand -> (long) hand.river(33, 1));
        test.addLike("over(2)", hand -> (long) hand.over(2));
        test.addLike("signs(60, 0, 2)", hand -> (long) hand.signs(60, 0, 2));
        test.addLike("still()", hand -> (long) hand.still());
        test.addLike("throwIn(2, 2030)", hand -> (long) hand.throwIn(2, 2030));
        test.addLike("bridges(20, 1)", hand -> (long) hand.bridges(20, 1));
        test.addLike("ring(0, 60)", hand -> (long) hand.ring(0, 60));
        test.addLike("judge(0, 0)", hand -> (long) hand.judge(0, 0));
        test.addLike("fits(0, 0, 0, 0)", hand -> (long) hand.fits(0, 0, 0, 0));
        test.addLike("fits(0, 0, 0, 2)", hand -> (long) hand.fits(0, 0, 0, 2));
        test.addLike("fits(0, 0, 0, 4)", hand -> (long) hand.fits(0, 0, 0, 4));
        test.addLike("hears(0, 1)", hand -> hand.hears(0, 1));
        test.addLike("odd(0, 1)", hand -> (long) hand.odd(0, 1));
        test.addLike("byTurns(2, 520, 0)", hand -> (long) hand.byTurns(2, 520, 0));
        test.addLike("drawn(7, 56012, -1)", hand -> (long) hand.drawn(7, 56012, -1));
        test.addLike("taken(2, 2)", hand -> (long) hand.taken(2, 2));
        test.run();
    }

    private void addLike(String call, Function<RiverHand, Long> made) {
        add(call, made.apply(this.made.get()), made::apply);
    }

    private static void noTraceByNoSuchAct() {
        check.says("0, and no TRACE then: no such STEP, ACT.");
        RiverHand hand = busy();
        int ran = hand.count(5);
        List<Long> ahead = seen(busy());
        check.due("no such STEP", hand.act(2, 0, 5), 0);
        List<Long> behind = seen(hand);
        check.due("fewer are seen by the TRACE alone", ahead.size() - behind.size(), ran);
        check.due("all else is the same", behind.subList(6, behind.size()).equals(ahead.subList(6 + ran, ahead.size())) ? 1 : 0, 1);
    }
}
