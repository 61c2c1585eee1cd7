/** What a test has asked and what was due; it tells what was wrong and ends the test. */
final class Due {
    private final String name;
    private String sentence = "";
    private int asked = 0;
    private int askedAhead = 0;
    private int wrong = 0;

    Due(String name) {
        this.name = name;
    }

    /** The document's own words, which all that is asked from here on stands for; SentencesTest looks them up. */
    void sentence(String words) {
        endSentence();
        sentence = words;
    }

    private void endSentence() {
        if (!sentence.isEmpty() && asked == askedAhead) {
            wrong++;
            System.out.println(name + ": nothing is asked for \"" + sentence + "\"");
        }
        askedAhead = asked;
    }

    void is(String call, long got, long want) {
        asked++;
        if (got != want) {
            wrong++;
            String where = sentence.isEmpty() ? "" : "\n    \"" + sentence + "\"";
            System.out.println(name + ": " + call + " answered " + got + ", due is " + want + where);
        }
    }

    void is(String call, boolean got, boolean want) {
        is(call, got ? 1 : 0, want ? 1 : 0);
    }

    /** The text behind the tape, padded with blanks to full twenties. */
    static void feed(MistHands hands, String text) {
        for (int at = 0; at < text.length(); at += 20) {
            int[] five = new int[5];
            for (int i = 0; i < 20; i++) {
                int sign = at + i < text.length() ? text.charAt(at + i) : ' ';
                five[i / 4] = five[i / 4] << 8 | sign;
            }
            hands.feed(five[0], five[1], five[2], five[3], five[4]);
        }
    }

    static int law(MistHands hands, String text) {
        feed(hands, text);
        return hands.law(text.length());
    }

    /** A new object with this law. */
    static MistHands under(String text) {
        MistHands hands = new MistHands();
        law(hands, text);
        return hands;
    }

    void end() {
        endSentence();
        System.out.println(name + ": " + asked + " answers, " + wrong + " of them wrong");
        if (wrong != 0 || asked == 0) {
            System.exit(1);
        }
    }
}
