/** Objects in the midst of a run; each call makes a new one, and all of one kind are alike. */
final class Scenes {
    private static final String FLAT = "M555533331000W0W2W4Fa70Fb42Fe93Fe31Ff60La0Le1Lj0Lf2";

    private Scenes() {
    }

    /**
     * Hour 1: lark 0 has walked to b, has sold find 0 and carries find 1, wet; lark 1 at e carries finds 2 and 3;
     * lark 2 is drowned at j; lark 3 has walked to b and carries nothing; find 4 lies at b. Ten acts, three seen,
     * slot 0 is kept, the text is a flat.
     */
    static MudBoards midway() {
        MudBoards x = Due.onFlat(FLAT);
        x.dig(0, 0);
        x.sell(0);
        x.dig(1, 2);
        x.dig(1, 3);
        x.hour();
        x.dig(3, 4);
        x.walk(3, 3);
        x.walk(0, 2);
        x.keep(0);
        x.put(3);
        x.dig(0, 1);
        x.see(5, 0, 1);
        x.see(11, 1, 0);
        x.see(4, 9, 1);
        x.seed(77);
        return x;
    }

    /** The same, but the text is no flat, as it is only not at its end. */
    static MudBoards unfinished() {
        MudBoards x = midway();
        x.write('W');
        return x;
    }

    /** The same, but all is full: 60 letters, 14 acts of more, 6 seen, both slots. */
    static MudBoards full() {
        MudBoards x = midway();
        x.keep(1);
        Due.hours(x, 6);
        Due.tell(x, "W1W2W3W4W");
        for (int i = 3; i < 6; i++) {
            x.see(i, i, 1);
        }
        return x;
    }

    /** The same, but one has gone on from slot 0: there are no acts. */
    static MudBoards goneOn() {
        MudBoards x = midway();
        x.again(0);
        return x;
    }
}
