import java.nio.charset.StandardCharsets;

/** Counts the answers that are not as due, and ends a test with exit code 1 if there was one. */
final class Check {
    private int wrong;
    private int asked;

    void due(String call, long got, long want) {
        asked++;
        if (got != want) {
            wrong++;
            System.out.println(call + " answered " + got + ", due is " + want);
        }
    }

    void finish() {
        System.out.println(asked + " answers, " + wrong + " not as due");
        if (wrong != 0 || asked == 0) {
            System.exit(1);
        }
    }

    /** Feeds a text to THE TAPE and makes it THE LAW. */
    static int law(RiverHand hand, String text) {
        for (byte letter : text.getBytes(StandardCharsets.ISO_8859_1)) {
            hand.feed(letter & 255);
        }
        return hand.law();
    }

    /** A SHELF holds a ROW of bytes with these elements. */
    static void bytes(RiverHand hand, int shelf, int... elements) {
        hand.row(shelf, 0, elements.length);
        for (int i = 0; i < elements.length; i++) {
            hand.put(shelf, i, elements[i]);
        }
    }

    /** A river by its banks, all else as at first. */
    static RiverHand river(int... banks) {
        RiverHand hand = new RiverHand();
        for (int bank : banks) {
            hand.reach(bank);
        }
        return hand;
    }
}
