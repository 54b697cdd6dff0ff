/** Compares answers with those that are due, and ends a test with exit code 1 if one is wrong. */
final class Due {
    private final String test;
    private String sentence = "";
    private int asked;
    private int askedOfSentence = 1;
    private int wrong;

    Due(String test) {
        this.test = test;
    }

    /** What is asked from here on is by this sentence of the document, in its own words; each has to be asked something. */
    void of(String words) {
        endSentence();
        sentence = words;
        askedOfSentence = 0;
    }

    private void endSentence() {
        if (askedOfSentence == 0) {
            wrong++;
            System.out.println(test + ": nothing was asked of '" + sentence + "'");
        }
    }

    void is(String call, long got, long want) {
        asked++;
        askedOfSentence++;
        if (got != want) {
            wrong++;
            System.out.println(test + ": " + call + " answered " + got + ", due is " + want);
            if (!sentence.isEmpty()) {
                System.out.println("    by: " + sentence);
            }
        }
    }

    /** Writes a text behind what is there. */
    static void tell(MudBoards boards, String text) {
        for (int i = 0; i < text.length(); i++) {
            boards.write(text.charAt(i));
        }
    }

    /** A new object with a text, of which nothing is made yet. */
    static MudBoards onText(String text) {
        MudBoards boards = new MudBoards();
        tell(boards, text);
        return boards;
    }

    /** A new object with THE FLAT of a text. */
    static MudBoards onFlat(String text) {
        MudBoards boards = onText(text);
        if (boards.flat() < 0) {
            throw new IllegalStateException("no flat: " + text);
        }
        return boards;
    }

    static void hours(MudBoards boards, int n) {
        for (int i = 0; i < n; i++) {
            boards.hour();
        }
    }

    void end() {
        endSentence();
        System.out.println(test + ": " + asked + " answers, " + wrong + " wrong");
        if (wrong != 0 || asked == 0) {
            System.exit(1);
        }
    }
}
