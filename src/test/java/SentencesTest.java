import java.io.IOException;
import java.nio.file.Files;
import java.nio.file.Path;
import java.util.ArrayList;
import java.util.List;
import java.util.regex.Matcher;
import java.util.regex.Pattern;
import java.util.stream.Stream;

/**
 * Each sentence of the document has a test that bears its words: what a test says it stands for does stand in the
 * document, and no word from "Terms" to the last promise is left without a test.
 */
public final class SentencesTest {
    private static final Due DUE = new Due("sentences");
    private static final Pattern CALL = Pattern.compile("DUE\\.sentence\\(((?:\\s*\"(?:[^\"\\\\]|\\\\.)*\"\\s*\\+?)+)\\)");
    private static final Pattern TEXT = Pattern.compile("\"((?:[^\"\\\\]|\\\\.)*)\"");

    public static void main(String[] args) throws IOException {
        Path root = Path.of(System.getProperty("project.root", "."));
        Path file = root.resolve("../shared/DOC.md");
        if (!Files.exists(file)) {
            System.out.println("sentences: no document at " + file);
            return;
        }
        String document = plain(Files.readString(file));
        int from = document.indexOf("## Terms") + "## Terms".length();
        int to = document.indexOf("## Not promised");
        boolean[] stands = new boolean[document.length()];
        for (String sentence : sentences(root.resolve("src/test/java"))) {
            int at = document.indexOf(sentence);
            DUE.is("in the document: \"" + sentence + "\"", at >= 0, true);
            for (; at >= 0; at = document.indexOf(sentence, at + 1)) {
                for (int i = at; i < at + sentence.length(); i++) {
                    stands[i] = true;
                }
            }
        }
        tellLeft(document, stands, from, to);
        DUE.end();
    }

    /** One blank for each gap, without the marks of text blocks and of headings. */
    private static String plain(String text) {
        return text.replaceAll("```(java|text)?", " ").replaceAll("\\s+", " ");
    }

    private static List<String> sentences(Path folder) throws IOException {
        List<String> all = new ArrayList<>();
        try (Stream<Path> files = Files.list(folder)) {
            for (Path file : files.filter(f -> f.toString().endsWith("Test.java")).sorted().toList()) {
                Matcher call = CALL.matcher(Files.readString(file));
                while (call.find()) {
                    StringBuilder words = new StringBuilder();
                    Matcher text = TEXT.matcher(call.group(1));
                    while (text.find()) {
                        words.append(text.group(1).replace("\\\"", "\"").replace("\\\\", "\\"));
                    }
                    all.add(words.toString());
                }
            }
        }
        return all;
    }

    private static void tellLeft(String document, boolean[] stands, int from, int to) {
        StringBuilder left = new StringBuilder();
        for (int i = from; i < to; i++) {
            left.append(stands[i] ? "\n" : document.charAt(i));
        }
        for (String words : left.toString().split("\n+")) {
            String bare = words.replaceAll("## Promise \\d+: \\w+( new object)?", "").strip();
            DUE.is("without a test: \"" + bare + "\"", bare.isEmpty(), true);
        }
    }
}
