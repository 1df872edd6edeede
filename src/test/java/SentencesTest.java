import java.io.File;
import java.util.Arrays;
import java.util.regex.Matcher;
import java.util.regex.Pattern;

/** Every sentence of the terms and of each promise stands ahead of a test that holds it. */
public final class SentencesTest extends Bench {
    private static final Pattern QUOTED = Pattern.compile("sentence\\((\\d+), \"((?:[^\"\\\\]|\\\\.)*)\"\\)");
    private static final int PROMISES = 45;
    private static final String[] parts = new String[PROMISES + 1];
    private static final boolean[][] held = new boolean[PROMISES + 1][];

    /** Part 0 is the terms; the others are the promises, behind their face. */
    private static void readParts() {
        for (int i = 0; i <= PROMISES; i++) {
            String part = partOfDocument(i == 0 ? "## Terms" : "## Promise " + i + ":");
            int face = part.indexOf("`: ");
            parts[i] = i == 0 ? part.substring("## Terms".length(), part.indexOf("The constants:")) : part.substring(face + 3);
            held[i] = new boolean[parts[i].length()];
        }
    }

    private static void hold(int part, String words) {
        int at = parts[part].indexOf(words);
        for (int i = 0; i < 100 && at >= 0; i++) {
            Arrays.fill(held[part], at, at + words.length(), true);
            at = parts[part].indexOf(words, at + 1);
        }
    }

    private static void readTests() {
        File[] files = new File("src/test/java").listFiles();
        if (files == null) return;
        for (File file : files) {
            if (!file.getName().endsWith(".java") || file.getName().equals("SentencesTest.java")) continue;
            Matcher m = QUOTED.matcher(read(file.getPath()));
            for (int i = 0; i < 10000 && m.find(); i++) {
                hold(Integer.parseInt(m.group(1)), m.group(2));
                hold(0, m.group(2));
            }
        }
    }

    private static String left(int part) {
        StringBuilder b = new StringBuilder();
        for (int i = 0; i < parts[part].length(); i++) {
            char c = parts[part].charAt(i);
            boolean word = Character.isLetterOrDigit(c);
            if (!held[part][i] && (word || b.length() > 0)) b.append(c);
            if (held[part][i] && b.length() > 0 && b.charAt(b.length() - 1) != '|') b.append('|');
        }
        return b.toString().replaceAll("[^A-Za-z0-9]+", " ").isBlank() ? "" : b.toString();
    }

    public static void main(String[] args) {
        readParts();
        readTests();
        for (int i = 0; i <= PROMISES; i++) {
            named(i == 0 ? "the terms" : "promise " + i);
            String left = left(i);
            due("words that no test holds: <" + left + ">", left.length(), 0);
        }
        end();
    }
}
