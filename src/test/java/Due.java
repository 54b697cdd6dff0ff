/** Compares answers with those that are due, and ends a test with exit code 1 if one is wrong. */
final class Due {
    private final String test;
    private int asked;
    private int wrong;

    Due(String test) {
        this.test = test;
    }

    void is(String call, long got, long want) {
        asked++;
        if (got != want) {
            wrong++;
            System.out.println(test + ": " + call + " answered " + got + ", due is " + want);
        }
    }

    /** Writes a text behind what is there. */
    static void tell(MudBoards boards, String text) {
        for (int i = 0; i < text.length(); i++) {
            boards.write(text.charAt(i));
        }
    }

    /** A new object with THE FLAT of a text. */
    static MudBoards onFlat(String text) {
        MudBoards boards = new MudBoards();
        tell(boards, text);
        if (boards.flat() < 0) {
            throw new IllegalStateException("no flat: " + text);
        }
        return boards;
    }

    static void hours(MudBoards boards, int n) {
        for (int i = 0; i < n; i++) {
            boards.hour();
        }
    }

    void end() {
        System.out.println(test + ": " + asked + " answers, " + wrong + " wrong");
        if (wrong != 0 || asked == 0) {
            System.exit(1);
        }
    }
}
