import java.lang.reflect.Array;
import java.math.BigInteger;
import java.util.ArrayList;
import java.util.Arrays;
import java.util.Collections;
import java.util.HashMap;
import java.util.List;
import java.util.Map;
import java.util.function.Predicate;

/** The document once more, in the plainest Java with all its library: what RandomRunsTest holds the program against. */
final class RiverModel {
    private static final int BAD = -1, NOT = -2, FULL = -3, STATE = -5, VOID = -2000000000;

    /** One state of the river; never changed once it is made, but for the one in deed. */
    static final class State {
        List<int[]> reaches = new ArrayList<>();
        int[] rain = new int[7];
        int spring = 3;
        int day;

        State copy() {
            State copy = new State();
            for (int[] reach : reaches) {
                copy.reaches.add(reach.clone());
            }
            copy.rain = rain.clone();
            copy.spring = spring;
            copy.day = day;
            return copy;
        }

        int level(int reach) {
            return reaches.get(reach)[0];
        }

        List<Integer> levels() {
            List<Integer> all = new ArrayList<>();
            for (int[] reach : reaches) {
                all.add(reach[0]);
            }
            return all;
        }

        boolean over(int reach) {
            return reaches.get(reach)[0] >= reaches.get(reach)[1];
        }

        int overs() {
            int many = 0;
            for (int i = 0; i < reaches.size(); i++) {
                many += over(i) ? 1 : 0;
            }
            return many;
        }
    }

    private State now = new State();
    private String tape = "";
    private String law;
    private final Map<List<Integer>, Integer> worths = new HashMap<>();
    private final List<int[]> made = new ArrayList<>();
    private final List<int[]> unmade = new ArrayList<>();
    private int[] led = new int[5];
    private State image;
    private int[] ledOfImage;
    private final List<StepModel.Step> steps = new ArrayList<>();
    private List<Integer> trace = new ArrayList<>();
    private final Object[] shelves = new Object[6];

    // ---- the river

    private int flow(State s, int i) {
        int[] reach = s.reaches.get(i);
        int told;
        if (law == null) {
            told = reach[0] / 5 - 2 * reach[2] - reach[3] / 3;
        } else {
            int following = i + 1 < s.reaches.size() ? s.level(i + 1) : 0;
            told = worth(List.of(reach[0], following, s.rain[s.day], reach[3], reach[2], s.day));
        }
        return Math.min(reach[0], told < 0 ? 0 : told > 20 ? 20 : told);
    }

    /** By l, n, r, g, b, d; kept, since a text's worth is slow to find. */
    private int worth(List<Integer> values) {
        Integer before = worths.get(values);
        if (before == null) {
            Map<Character, Integer> names = new HashMap<>();
            for (int i = 0; i < values.size(); i++) {
                names.put("lnrgbd".charAt(i), values.get(i));
            }
            before = new TextModel(law).worth(names);
            worths.put(values, before);
        }
        return before;
    }

    private State next(State s) {
        State t = s.copy();
        for (int i = 0; i < s.reaches.size(); i++) {
            int in = i == 0 ? s.spring : flow(s, i - 1);
            int level = s.level(i) + s.rain[s.day] + in - flow(s, i);
            t.reaches.get(i)[0] = level < 0 ? 0 : level > 99 ? 99 : level;
        }
        t.day = s.day == 6 ? 0 : s.day + 1;
        return t;
    }

    private List<State> days(State s, int n) {
        List<State> all = new ArrayList<>();
        all.add(s);
        for (int i = 0; i < n; i++) {
            all.add(next(all.get(i)));
        }
        return all;
    }

    private State behind(State s, int n) {
        return days(s, n).get(n);
    }

    private boolean reachThere(int reach) {
        return 0 <= reach && reach < now.reaches.size();
    }

    int reach(int bank) {
        if (bank < 1 || bank > 99) {
            return BAD;
        }
        if (now.reaches.size() == 8) {
            return FULL;
        }
        now.reaches.add(new int[] {30, bank, 0, 0});
        return now.reaches.size() - 1;
    }

    int reaches(int shelf, int i, int n) {
        if (shelf < 0 || shelf > 5 || n < 1 || n > 8) {
            return BAD;
        }
        if (shelves[shelf] != null && !(shelves[shelf] instanceof byte[])) {
            return -12;
        }
        int came = 0;
        try {
            for (; came < n; came++) {
                byte[] row = (byte[]) shelves[shelf];
                int level = row[i + 3 * came];
                int bank = row[i + 3 * came + 1];
                int gifts = row[i + 3 * came + 2];
                if (level < 0 || level > 99 || bank < 1 || bank > 99 || gifts < 0 || gifts > 9 || now.reaches.size() == 8) {
                    break;
                }
                now.reaches.add(new int[] {level, bank, 0, gifts});
            }
        } catch (NullPointerException | ArrayIndexOutOfBoundsException end) {
            return came;
        }
        return came;
    }

    int of(int number, int what) {
        if (what >= 0 && what <= 3 && reachThere(number)) {
            return now.reaches.get(number)[what];
        }
        if (what == 4 && number >= 0 && number <= 6) {
            return now.rain[number];
        }
        if (number == 0 && (what == 5 || what == 6)) {
            return what == 5 ? now.spring : now.day;
        }
        return BAD;
    }

    private void set(int number, int what, int v) {
        if (what <= 3) {
            now.reaches.get(number)[what] = v;
        } else if (what == 4) {
            now.rain[number] = v;
        } else if (what == 5) {
            now.spring = v;
        } else {
            now.day = v;
        }
    }

    int mend(int number, int what, int v) {
        int was = of(number, what);
        if (was == BAD) {
            return BAD;
        }
        int most = new int[] {99, 99, 1, 9, 9, 9, 6}[what];
        if (v > most || v < (what == 1 ? 1 : 0)) {
            return BAD;
        }
        if (v != was) {
            set(number, what, v);
            made.add(new int[] {number, what, was, v});
            unmade.clear();
            if (made.size() > 40) {
                made.remove(0);
            }
        }
        return was;
    }

    int feed(int letter) {
        if (letter < 0 || letter > 255) {
            return BAD;
        }
        if (tape.length() == 120) {
            return FULL;
        }
        tape += (char) letter;
        return tape.length();
    }

    int law() {
        String text = tape;
        tape = "";
        int fault = TextModel.fault(text);
        if (fault >= 0) {
            return -100 - fault;
        }
        law = text;
        worths.clear();
        return 1;
    }

    int goes(int reach) {
        return reachThere(reach) ? flow(now, reach) : BAD;
    }

    // ---- days in thought

    private int sign(List<State> days, int day, int reach) {
        return Integer.signum(days.get(day).level(reach) - days.get(day - 1).level(reach)) == 1 ? 1
                : days.get(day).level(reach) == days.get(day - 1).level(reach) ? 0 : 2;
    }

    int later(int n, int reach, int what) {
        if (n < 0 || n > 60 || !reachThere(reach) || what != 0 && what != 1 || what == 1 && n == 0) {
            return BAD;
        }
        List<State> days = days(now, n);
        return what == 0 ? days.get(n).level(reach) : sign(days, n, reach);
    }

    int river(int n, int what) {
        if (n < 0 || n > 60 || what != 0 && what != 1) {
            return BAD;
        }
        State s = behind(now, n);
        int answer = 0;
        for (int i = 0; i < s.reaches.size(); i++) {
            answer += what == 1 ? s.level(i) : s.over(i) ? (int) Math.pow(2, i) : 0;
        }
        return answer;
    }

    int over(int reach) {
        if (reach != -1 && !reachThere(reach)) {
            return BAD;
        }
        List<State> days = days(now, 60);
        for (int day = 0; day <= 60; day++) {
            for (int i = 0; i < now.reaches.size(); i++) {
                if (days.get(day).over(i) && (reach == -1 || reach == i)) {
                    return reach == -1 ? i : day;
                }
            }
        }
        return NOT;
    }

    int signs(int n, int reach, int what) {
        if (n < 0 || n > 60 || !reachThere(reach) || what < 0 || what > 2) {
            return BAD;
        }
        StringBuilder all = new StringBuilder();
        List<State> days = days(now, n);
        for (int day = 1; day <= n; day++) {
            all.append(sign(days, day, reach));
        }
        if (what < 2) {
            return all.toString().replaceAll(what == 0 ? "[02]" : "[01]", "").length();
        }
        int longest = 0;
        for (String run : all.toString().split("[02]")) {
            longest = Math.max(longest, run.length());
        }
        return longest;
    }

    int still() {
        List<State> days = days(now, 60);
        for (int day = 7; day <= 60; day++) {
            if (days.get(day).levels().equals(days.get(day - 7).levels())) {
                return day;
            }
        }
        return NOT;
    }

    int throwIn(int fr, int nx) {
        if (fr < 0 || nx < 0 || !reachThere(fr / 10) || !reachThere(fr % 10) || nx / 100 > 20) {
            return BAD;
        }
        for (int v = 0; v <= 99; v++) {
            State s = now.copy();
            s.reaches.get(fr / 10)[0] = Math.min(99, s.level(fr / 10) + v);
            boolean comes = false;
            boolean safe = true;
            for (State day : days(s, nx / 100)) {
                comes |= day.level(fr % 10) >= nx % 100;
                safe &= day.overs() == 0;
            }
            if (comes && safe) {
                return v;
            }
        }
        return NOT;
    }

    int bridges(int n, int what) {
        if (n < 0 || n > 20 || what < 0 || what > 1) {
            return BAD;
        }
        List<int[]> ways = new ArrayList<>();
        for (int way = 0; way < Math.pow(2, now.reaches.size()); way++) {
            State s = now.copy();
            int many = 0;
            for (int i = 0; i < s.reaches.size(); i++) {
                int has = way / (1 << i) % 2;
                s.reaches.get(i)[2] = has;
                many += has;
            }
            State end = behind(s, n);
            ways.add(new int[] {end.overs(), end.levels().stream().mapToInt(x -> x).sum(), many, way});
        }
        int[] best = Collections.min(ways, Arrays::compare);
        return what == 0 ? best[0] : best[3];
    }

    // ---- the ring, gauges, answers

    int ring(int reach, int n) {
        if (!reachThere(reach) || n < -1 || n > 60) {
            return BAD;
        }
        List<State> days = days(now, 60);
        int place = reach;
        for (int day = 0; day <= 60; day++) {
            if (place == now.reaches.size() && n == -1) {
                return day;
            }
            if (day == n) {
                return place == now.reaches.size() ? 8 : place;
            }
            if (place < now.reaches.size() && flow(days.get(day), place) >= 5) {
                place++;
            }
        }
        return NOT;
    }

    private int judged(State s, byte[] gauge, int reach) {
        int many = Math.min(41, gauge.length);
        List<State> days = days(s, many);
        for (int i = 0; i < many; i++) {
            if (gauge[i] != 100 && gauge[i] != days.get(i).level(reach)) {
                return i;
            }
        }
        return NOT;
    }

    private int refusal(int shelf) {
        return shelves[shelf] == null ? -11 : shelves[shelf] instanceof byte[] ? 0 : -12;
    }

    int judge(int shelf, int reach) {
        if (shelf < 0 || shelf > 5 || !reachThere(reach)) {
            return BAD;
        }
        return refusal(shelf) != 0 ? refusal(shelf) : judged(now, (byte[]) shelves[shelf], reach);
    }

    int fits(int shelf, int reach, int number, int what) {
        if (shelf < 0 || shelf > 5 || !reachThere(reach) || what < 0 || what > 4) {
            return BAD;
        }
        if (what <= 1 ? number < 0 || number > 6 : !reachThere(number)) {
            return BAD;
        }
        if (refusal(shelf) != 0) {
            return refusal(shelf);
        }
        List<Integer> fitting = new ArrayList<>();
        int[] most = {9, 9, 99, 99, 1};
        for (int v = 0; v <= most[what]; v++) {
            State s = now.copy();
            if (what <= 1) {
                s.rain[number] = v;
            } else {
                s.reaches.get(number)[what == 4 ? 2 : 0] = v;
            }
            if (judged(s, (byte[]) shelves[shelf], reach) == NOT) {
                fitting.add(v);
            }
        }
        if (what == 4) {
            return (fitting.contains(0) ? 1 : 0) + (fitting.contains(1) ? 2 : 0);
        }
        return what % 2 == 0 ? fitting.size() : fitting.isEmpty() ? NOT : fitting.get(0);
    }

    private List<int[]> answers(int shelf) {
        if (shelf < 0 || shelf > 5 || !(shelves[shelf] instanceof byte[] row)) {
            return null;
        }
        List<int[]> all = new ArrayList<>();
        for (int i = 0; i + 1 < row.length && all.size() < 20; i += 2) {
            if (row[i] < 0 || row[i] > 1 || row[i + 1] < 0 || row[i + 1] > 2) {
                break;
            }
            all.add(new int[] {row[i], row[i + 1]});
        }
        return all;
    }

    /** Above and below the line, in twelfths a day and not yet in lowest terms. */
    private BigInteger[] likely(List<int[]> answers) {
        BigInteger hears = BigInteger.ONE;
        BigInteger not = BigInteger.ONE;
        for (int[] answer : answers) {
            int rises = answer[0] == 1 ? 8 : 4;
            hears = hears.multiply(BigInteger.valueOf(answer[1] == 1 ? rises : 12 - rises));
            not = not.multiply(BigInteger.valueOf(answer[1] == 1 ? 4 : 8));
        }
        BigInteger all = hears.add(not);
        BigInteger common = hears.gcd(all);
        return new BigInteger[] {hears.divide(common), all.divide(common)};
    }

    long hears(int shelf, int part) {
        List<int[]> answers = answers(shelf);
        return answers == null || part < 0 || part > 1 ? Long.MIN_VALUE : likely(answers)[part].longValueExact();
    }

    int odd(int shelf, int what) {
        List<int[]> answers = answers(shelf);
        if (answers == null || what < 0 || what > 1) {
            return VOID;
        }
        if (what == 0) {
            int odd = 0;
            for (int[] answer : answers) {
                odd += answer[1] != 1 ? 0 : answer[0] == 1 ? 1 : -1;
            }
            return odd;
        }
        for (int more = 0; ; more++) {
            BigInteger[] likely = likely(answers);
            if (likely[0].multiply(BigInteger.valueOf(12)).compareTo(likely[1].multiply(BigInteger.valueOf(11))) >= 0) {
                return more;
            }
            answers.add(new int[] {1, 1});
        }
    }

    private int[] played(State s, int turn, int n, int t, int a, int b) {
        if (turn == n) {
            State end = behind(s, t);
            return new int[] {end.level(a) - end.level(b), 2};
        }
        boolean first = turn % 2 == 0;
        int[] best = null;
        for (int way : new int[] {2, 0, 1}) {
            State then = s.copy();
            int[] reach = then.reaches.get(first ? a : b);
            reach[0] = way == 0 ? Math.min(99, reach[0] + 9) : way == 1 ? Math.max(0, reach[0] - 9) : reach[0];
            int worth = played(then, turn + 1, n, t, a, b)[0];
            if (best == null || (first ? worth > best[0] : worth < best[0])) {
                best = new int[] {worth, way};
            }
        }
        return best;
    }

    int byTurns(int ab, int nt, int what) {
        int n = nt / 100;
        int t = nt % 100;
        if (ab < 0 || nt < 0 || !reachThere(ab / 10) || !reachThere(ab % 10) || ab / 10 == ab % 10) {
            return VOID;
        }
        if (n < 1 || n > 5 || t > 20 || what < 0 || what > 1) {
            return VOID;
        }
        return played(now, 0, n, t, ab / 10, ab % 10)[what];
    }

    int drawn(int seed, int nmw, int reach) {
        int n = nmw / 10000;
        int m = nmw % 10000 / 100;
        int wet = nmw % 100;
        if (nmw < 0 || n < 1 || n > 30 || m < 1 || m > 60 || wet > 12 || reach != -1 && !reachThere(reach)) {
            return BAD;
        }
        int z = seed;
        int often = 0;
        for (int year = 0; year < n; year++) {
            State s = now;
            for (int day = 0; day < m; day++) {
                z = z * 1103515245 + 12345;
                State wetter = s.copy();
                wetter.rain[s.day] = (z >>> 16) % 12 < wet ? (z >>> 8) % 10 : 0;
                s = next(wetter);
                often += reach == -1 ? s.overs() : s.over(reach) ? 1 : 0;
            }
        }
        return often;
    }

    // ---- in deed

    int day() {
        State then = next(now);
        led[0]++;
        for (int i = 0; i < now.reaches.size(); i++) {
            led[1] += then.level(i) > now.level(i) ? 1 : 0;
            led[2] += then.level(i) < now.level(i) ? 1 : 0;
            led[3] += then.over(i) && !now.over(i) ? 1 : 0;
        }
        now = then;
        return now.overs();
    }

    int gift(int reach, int v) {
        if (!reachThere(reach) || v < 0 || v > 99) {
            return BAD;
        }
        int[] at = now.reaches.get(reach);
        if (at[3] == 9) {
            return STATE;
        }
        at[3]++;
        at[0] = Math.min(99, at[0] + v);
        led[4]++;
        return at[0];
    }

    int build(int reach, int how) {
        if (!reachThere(reach) || how != 0 && how != 1) {
            return BAD;
        }
        int was = now.reaches.get(reach)[2];
        now.reaches.get(reach)[2] = how;
        return was;
    }

    int led(int what) {
        return what < 0 || what > 4 ? BAD : led[what];
    }

    int image() {
        image = now.copy();
        ledOfImage = led.clone();
        return led[0];
    }

    int back() {
        if (image == null) {
            return STATE;
        }
        for (int i = 0; i < image.reaches.size(); i++) {
            for (int what : new int[] {0, 2, 3}) {
                now.reaches.get(i)[what] = image.reaches.get(i)[what];
            }
        }
        now.day = image.day;
        led = ledOfImage.clone();
        return led[0];
    }

    int undo() {
        if (made.isEmpty()) {
            return STATE;
        }
        int[] change = made.remove(made.size() - 1);
        unmade.add(change);
        set(change[0], change[1], change[2]);
        return made.size();
    }

    int redo() {
        if (unmade.isEmpty()) {
            return STATE;
        }
        int[] change = unmade.remove(unmade.size() - 1);
        made.add(change);
        set(change[0], change[1], change[3]);
        return unmade.size();
    }

    // ---- acts, shelves

    int body(int kind) {
        if (kind < 0 || kind > 7) {
            return BAD;
        }
        if (steps.size() == 50) {
            return FULL;
        }
        steps.add(StepModel.make(kind, steps.size()));
        return steps.size() - 1;
    }

    int act(int body, int act, int x) {
        StepModel.trace.clear();
        int answer = body < 0 || body >= steps.size() || act < 0 || act > 3 ? 0 : StepModel.act(steps.get(body), act, x);
        trace = new ArrayList<>(StepModel.trace);
        return answer;
    }

    int trace(int i) {
        return i < 0 || i >= trace.size() || i >= 24 ? BAD : trace.get(i);
    }

    int keep(int shelf, int body) {
        if (shelf < 0 || shelf > 5 || body < -1 || body >= steps.size()) {
            return BAD;
        }
        shelves[shelf] = body == -1 ? null : steps.get(body);
        return 1;
    }

    int row(int shelf, int sort, int n) {
        if (shelf < 0 || shelf > 5 || sort < 0 || sort > 4 || n > 60) {
            return BAD;
        }
        try {
            shelves[shelf] = switch (sort) {
                case 0 -> new byte[n];
                case 1 -> new short[n];
                case 2 -> new int[n];
                case 3 -> new long[n];
                default -> new boolean[n];
            };
        } catch (NegativeArraySizeException below0) {
            return -14;
        }
        return 1;
    }

    int put(int shelf, int i, long v) {
        if (shelf < 0 || shelf > 5) {
            return BAD;
        }
        try {
            if (shelves[shelf] instanceof byte[] row) {
                row[i] = (byte) v;
            } else if (shelves[shelf] instanceof short[] row) {
                row[i] = (short) v;
            } else if (shelves[shelf] instanceof int[] row) {
                row[i] = (int) v;
            } else if (shelves[shelf] instanceof long[] row) {
                row[i] = v;
            } else if (shelves[shelf] instanceof boolean[] row) {
                row[i] = v != 0;
            } else {
                return shelves[shelf] == null ? -11 : -12;
            }
        } catch (ArrayIndexOutOfBoundsException noPlace) {
            return -13;
        }
        return 1;
    }

    long element(int shelf, int i) {
        if (shelf < 0 || shelf > 5 || shelves[shelf] == null || !shelves[shelf].getClass().isArray()) {
            return Long.MIN_VALUE;
        }
        try {
            Object element = Array.get(shelves[shelf], i);
            return element instanceof Boolean truth ? (truth ? 1 : 0) : ((Number) element).longValue();
        } catch (ArrayIndexOutOfBoundsException noPlace) {
            return Long.MIN_VALUE;
        }
    }

    @SuppressWarnings("SuspiciousSystemArraycopy")
    int shift(int shelf, int i, int other, int j, int n) {
        if (shelf < 0 || shelf > 5 || other < 0 || other > 5) {
            return BAD;
        }
        try {
            System.arraycopy(shelves[shelf], i, shelves[other], j, n);
        } catch (NullPointerException nothing) {
            return -11;
        } catch (ArrayStoreException unlike) {
            return -12;
        } catch (IndexOutOfBoundsException noPlace) {
            return -13;
        }
        return n;
    }

    int taken(int shelf, int k) {
        if (shelf < 0 || shelf > 5 || k < 0 || k > 7) {
            return BAD;
        }
        Predicate<StepModel.Step> fitting = step -> StepModel.is(step, k);
        if (shelves[shelf] == null) {
            return -11;
        }
        return shelves[shelf] instanceof StepModel.Step step && fitting.test(step) ? step.kind : -12;
    }

    int count(int what) {
        int[] all = {now.reaches.size(), now.overs(), tape.length(), made.size(), steps.size(), trace.size()};
        return what < 0 || what > 5 ? BAD : all[what];
    }
}
