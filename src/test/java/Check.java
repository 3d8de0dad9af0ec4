import java.io.IOException;
import java.io.UncheckedIOException;
import java.nio.charset.StandardCharsets;
import java.nio.file.Files;
import java.nio.file.Path;

/** Counts the answers that are not as due, and ends a test with exit code 1 if there was one. */
final class Check {
    private int wrong;
    private int asked;
    private int sentences;
    private int askedOfSentence;
    private String sentence = "";
    private String document;

    void due(String call, long got, long want) {
        asked++;
        askedOfSentence++;
        if (got != want) {
            wrong++;
            System.out.println(call + " answered " + got + ", due is " + want
                    + (sentence.isEmpty() ? "" : " by \"" + sentence + "\""));
        }
    }

    /** What follows tests these words, which must stand in the document as they are quoted. */
    void says(String words) {
        endSentence();
        sentence = words;
        sentences++;
        if (!document().contains(words)) {
            fault("the document has not: " + words);
        }
    }

    void finish() {
        endSentence();
        String ofSentences = sentences == 0 ? "" : " of " + sentences + " sentences";
        System.out.println(asked + " answers" + ofSentences + ", " + wrong + " not as due");
        if (wrong != 0 || asked == 0) {
            System.exit(1);
        }
    }

    private void endSentence() {
        if (sentences > 0 && askedOfSentence == 0) {
            fault("nothing was asked of: " + sentence);
        }
        askedOfSentence = 0;
    }

    private void fault(String text) {
        wrong++;
        System.out.println(text);
    }

    private String document() {
        if (document == null) {
            try {
                document = Files.readString(Path.of("../shared/DOC.md")).replaceAll("\\s+", " ");
            } catch (IOException e) {
                throw new UncheckedIOException(e);
            }
        }
        return document;
    }

    /** Feeds a text to THE TAPE and makes it THE LAW. */
    static int law(RiverHand hand, String text) {
        for (byte letter : text.getBytes(StandardCharsets.ISO_8859_1)) {
            hand.feed(letter & 255);
        }
        return hand.law();
    }

    /** A SHELF holds a ROW of bytes with these elements. */
    static void bytes(RiverHand hand, int shelf, int... elements) {
        hand.row(shelf, 0, elements.length);
        for (int i = 0; i < elements.length; i++) {
            hand.put(shelf, i, elements[i]);
        }
    }

    /** A river by its banks, all else as at first. */
    static RiverHand river(int... banks) {
        RiverHand hand = new RiverHand();
        for (int bank : banks) {
            hand.reach(bank);
        }
        return hand;
    }

    /** A river by its banks in which nothing comes or goes, but for what is mended. */
    static RiverHand calm(int... banks) {
        RiverHand hand = river(banks);
        law(hand, "0");
        hand.mend(0, 5, 0);
        return hand;
    }
}
