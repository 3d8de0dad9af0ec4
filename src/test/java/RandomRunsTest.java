import java.lang.reflect.Method;
import java.lang.reflect.Modifier;
import java.util.ArrayList;
import java.util.Arrays;
import java.util.Comparator;
import java.util.List;
import java.util.Random;

/** Runs of random calls, each answer held against the model's; the seeds are fixed, so each run is the same. */
public final class RandomRunsTest {
    private static final int CALLS = 512;
    private static final String[] PARTS = {"l", "n", "r", "g", "b", "d", "0", "1", "7", "12", "9999", "(", ")", "!", "-",
        "+", "*", "/", "%", "<", "=", ">", "|", "&", "?", ";"};
    private static final String[] LAWS = {"l/4-n/10+r/2-b*3-g/4+d%2", "l>40?l/3;n>l?0;b?2;5", "20", "l", "l/5+r",
        "(l-n)/3+!b*4", "d<3?l/4;r*2-g", "b?0;l/2", "l*l*l*l*l*l%21-b", "n<l&l>9?6|0;l%7", "4+g/2"};
    private static final Check check = new Check();

    private final Random random;
    private final RiverHand hand = new RiverHand();
    private final RiverModel model = new RiverModel();
    private final List<String> told = new ArrayList<>();
    private int left = CALLS;
    private boolean good = true;

    private RandomRunsTest(long seed) {
        random = new Random(seed);
    }

    public static void main(String[] args) throws Exception {
        int runs = args.length > 0 ? Integer.parseInt(args[0]) : 60;
        int first = args.length > 1 ? Integer.parseInt(args[1]) : 0;
        Method[] methods = Arrays.stream(RiverHand.class.getDeclaredMethods())
                .filter(method -> Modifier.isPublic(method.getModifiers()))
                .sorted(Comparator.comparing(Method::getName)).toArray(Method[]::new);
        for (int seed = first; seed < first + runs; seed++) {
            new RandomRunsTest(seed).run(methods);
        }
        check.finish();
    }

    private void run(Method[] methods) throws Exception {
        int river = random.nextInt(9);
        for (int i = 0; i < river; i++) {
            call("reach", between(1, 99));
            call("mend", i, 0, between(0, 99));
            call("mend", i, 2, between(0, 1));
        }
        for (int i = 0; i < 7; i++) {
            call("mend", i, 4, Math.max(0, between(-6, 9)));
        }
        while (left > 0 && good) {
            switch (random.nextInt(30)) {
                case 0 -> text(LAWS[random.nextInt(LAWS.length)]);
                case 1 -> text(randomText());
                case 2, 3 -> gauge();
                case 4 -> answers();
                case 5 -> call("mend", between(0, 7), between(0, 6), between(0, 9));
                default -> anyCall(methods[random.nextInt(methods.length)]);
            }
        }
    }

    private int between(int least, int most) {
        return least + random.nextInt(most - least + 1);
    }

    private String randomText() {
        StringBuilder text = new StringBuilder();
        int length = between(1, 14);
        for (int i = 0; i < length; i++) {
            text.append(PARTS[random.nextInt(PARTS.length)]);
        }
        return text.toString();
    }

    private void text(String text) throws Exception {
        for (char letter : text.toCharArray()) {
            call("feed", (int) letter);
        }
        call("law");
    }

    /** A gauge that is mostly read from the river itself, so that some fit. */
    private void gauge() throws Exception {
        int shelf = between(0, 5);
        int length = random.nextInt(5) == 0 ? between(0, 45) : between(0, 6);
        int reach = between(0, 7);
        call("row", shelf, 0, length);
        for (int i = 0; i < length && reach >= 0; i++) {
            int level = random.nextInt(3) == 0 ? 100 : hand.later(i, reach, 0);
            left--;
            call("put", shelf, i, (long) (random.nextInt(15) == 0 ? between(0, 99) : level));
        }
        call("judge", shelf, reach);
        for (int what = 0; what <= 4; what++) {
            call("fits", shelf, reach, between(0, 7), what);
        }
    }

    private void answers() throws Exception {
        int shelf = between(0, 5);
        int length = random.nextInt(3) == 0 ? between(0, 60) : between(0, 12);
        call("row", shelf, 0, length);
        for (int i = 0; i < length; i++) {
            int most = random.nextInt(40) == 0 ? 3 : i % 2 == 0 ? 1 : 2;
            call("put", shelf, i, (long) between(random.nextInt(60) == 0 ? -1 : 0, most));
        }
        call("hears", shelf, between(0, 1));
        call("odd", shelf, 0);
        call("odd", shelf, 1);
    }

    private void anyCall(Method method) throws Exception {
        Class<?>[] types = method.getParameterTypes();
        Object[] values = new Object[types.length];
        for (int i = 0; i < types.length; i++) {
            values[i] = types[i] == long.class ? (Object) anyLong() : (Object) anyInt(method.getName(), i);
        }
        call(method.getName(), values);
    }

    private long anyLong() {
        return random.nextBoolean() ? random.nextLong() : between(-3, 120);
    }

    private int anyInt(String name, int i) {
        int chance = random.nextInt(40);
        if (chance == 0) {
            return new int[] {Integer.MIN_VALUE, Integer.MAX_VALUE, -1, -2, random.nextInt()}[random.nextInt(5)];
        }
        return switch (name + i) {
            case "throwIn0", "byTurns0" -> 10 * between(0, 7) + between(0, 7);
            case "throwIn1" -> 100 * between(0, 21) + between(0, 99);
            case "byTurns1" -> 100 * between(1, 5) + between(0, 20);
            case "drawn0", "act2" -> random.nextInt();
            case "drawn1" -> 10000 * between(1, 5) + 100 * between(1, 61) + between(0, 13);
            case "later0", "river0", "signs0", "ring1" -> between(-1, 61);
            case "bridges0" -> between(0, 21);
            case "mend2", "gift1", "reach0" -> between(0, 99);
            case "feed0" -> between(0, 255);
            case "row2" -> between(-1, 20);
            case "reaches1" -> between(-3, 12);
            default -> between(chance < 4 ? -2 : 0, chance < 4 ? 60 : chance < 12 ? 9 : 5);
        };
    }

    private void call(String name, Object... values) throws Exception {
        if (left <= 0 || !good) {
            return;
        }
        left--;
        Class<?>[] types = new Class<?>[values.length];
        for (int i = 0; i < values.length; i++) {
            types[i] = values[i] instanceof Long ? long.class : int.class;
        }
        Number want = (Number) RiverModel.class.getDeclaredMethod(name, types).invoke(model, values);
        Number got = (Number) RiverHand.class.getDeclaredMethod(name, types).invoke(hand, values);
        told.add(name + Arrays.toString(values) + " = " + got);
        check.due(name + Arrays.toString(values), got.longValue(), want.longValue());
        if (got.longValue() != want.longValue()) {
            good = false;
            System.out.println(String.join("\n", told));
        }
    }
}
