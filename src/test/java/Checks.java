import java.io.IOException;
import java.nio.file.Files;
import java.nio.file.Path;
import java.util.Arrays;
import java.util.function.Consumer;
import java.util.function.ToIntFunction;

/** Counts answers that are not as due, and ends a test with exit code 1 if there was one. */
final class Checks {
    static final int LEAST = Integer.MIN_VALUE;
    static final int GREATEST = Integer.MAX_VALUE;

    private static final Path DOCUMENT = Path.of("../shared/DOC.md");

    private final String test;
    private String document = "";
    private String sentence = "";
    private int sentences = 0;
    private int doneBefore = 0;
    private int done = 0;
    private int wrong = 0;

    Checks(String test) {
        this.test = test;
    }

    /** The checks that follow are about these words, which must stand in the document. */
    void says(String words) {
        endSentence();
        sentence = " [" + words + "]";
        sentences++;
        if (sentences == 1) {
            document = readDocument();
        }
        holds("these words stand in the document", document.isEmpty() || document.contains(oneLine(words)));
        doneBefore = done;
    }

    private void endSentence() {
        if (sentences > 0 && done == doneBefore) {
            holds("there is a check", false);
        }
    }

    /** Empty, and told so, where there is no document to read: the class is tested all the same. */
    private String readDocument() {
        try {
            return oneLine(Files.readString(DOCUMENT));
        } catch (IOException e) {
            System.out.println(test + ": words are not looked up, can't read " + DOCUMENT);
            return "";
        }
    }

    private static String oneLine(String text) {
        return text.replaceAll("\\s+", " ");
    }

    /** The call answers so, and the object is then as one on which it was not made. */
    void refused(String call, Consumer<DroveRoads> making, ToIntFunction<DroveRoads> refusal, int want) {
        DroveRoads asked = new DroveRoads();
        DroveRoads twin = new DroveRoads();
        making.accept(asked);
        making.accept(twin);
        due(call, refusal.applyAsInt(asked), want);
        int[] got = Probe.of(asked);
        int[] alike = Probe.of(twin);
        holds(call + " changes nothing", Arrays.equals(got, alike));
    }

    void due(String call, long got, long want) {
        done++;
        if (got != want) {
            wrong++;
            System.out.println(test + ": " + call + " answered " + got + ", due is " + want + sentence);
        }
    }

    void due(String call, boolean got, boolean want) {
        due(call, got ? 1 : 0, want ? 1 : 0);
    }

    void holds(String what, boolean holds) {
        done++;
        if (!holds) {
            wrong++;
            System.out.println(test + ": does not hold: " + what + sentence);
        }
    }

    void close() {
        endSentence();
        String about = sentences == 0 ? "" : " about " + sentences + " sentences";
        System.out.println(test + ": " + done + " answers" + about + ", " + wrong + " not as due");
        if (wrong != 0 || done == 0) {
            System.exit(1);
        }
    }

    /** Puts a text on an empty TAPE. */
    static void type(DroveRoads road, String text) {
        for (int from = 0; from < text.length(); from += 20) {
            road.feed(four(text, from), four(text, from + 4), four(text, from + 8), four(text, from + 12),
                four(text, from + 16));
        }
        road.end(text.length());
    }

    static int four(String text, int from) {
        int four = 0;
        for (int k = from; k < from + 4; k++) {
            four = four << 8 | (k < text.length() ? text.charAt(k) & 255 : 0);
        }
        return four;
    }

    static int orders(DroveRoads road, int herd, String text) {
        type(road, text);
        return road.orders(herd);
    }
}
