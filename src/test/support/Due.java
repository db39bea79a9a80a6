import java.io.IOException;
import java.nio.charset.StandardCharsets;
import java.nio.file.Files;
import java.nio.file.Path;
import java.util.List;

/** Counts the answers that are due by sentences of the document, and prints those that are not so. */
final class Due {
    private static final String DOCUMENT = document();
    private static String sentence = "";
    private static int sentences = 0;
    private static int asked = 0;
    private static int wrong = 0;

    private Due() { }

    /** The answers asked for from here on are due by these words, which stand so in the document. */
    static void by(String words) {
        sentence = words;
        sentences++;
        if (!DOCUMENT.isEmpty() && !DOCUMENT.contains(words)) {
            wrong++;
            System.out.println("the document does not say: " + words);
        }
    }

    static void is(String call, long got, long want) {
        asked++;
        if (got != want) {
            wrong++;
            System.out.println("'" + sentence + "': " + call + " answered " + got + ", due is " + want);
        }
    }

    /** Two objects were asked the same calls: each answer of one is due of the other. */
    static void alike(String call, List<String> got, List<String> want) {
        asked++;
        for (int n = 0; n < want.size(); n++) {
            if (!got.get(n).equals(want.get(n))) {
                wrong++;
                System.out.println("'" + sentence + "': behind " + call + " it is " + got.get(n)
                    + ", without it " + want.get(n));
                return;
            }
        }
    }

    static void end() {
        System.out.println(sentences + " sentences, " + asked + " answers asked for, " + wrong + " wrong");
        if (wrong != 0) {
            System.exit(1);
        }
    }

    private static String document() {
        String path = System.getProperty("forerain.document", "");
        if (path.isEmpty()) {
            return "";
        }
        try {
            return Files.readString(Path.of(path), StandardCharsets.UTF_8).replaceAll("\\s+", " ");
        } catch (IOException gone) {
            throw new IllegalStateException("the document can't be read: " + path, gone);
        }
    }
}
