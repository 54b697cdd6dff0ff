import java.util.stream.IntStream;

/** Numbers at the edges of a range, and beyond them. */
final class Edge {
    private Edge() {
    }

    /** Numbers that a range does not hold: next to it, far off, and such as are in it once their upper bits are cut. */
    static int[] outside(int least, int most) {
        IntStream near = IntStream.of(least - 1, least - 2, most + 1, most + 2);
        IntStream far = IntStream.of(Integer.MIN_VALUE, Integer.MIN_VALUE + 1, Integer.MAX_VALUE, Integer.MAX_VALUE - 1);
        IntStream cut = IntStream.of(4, 5, 8, 16, 31).map(bits -> least + (1 << bits));
        return IntStream.concat(near, IntStream.concat(far, cut)).filter(n -> n < least || n > most).toArray();
    }

    /** All numbers of a range. */
    static int[] inside(int least, int most) {
        return IntStream.rangeClosed(least, most).toArray();
    }

    /** The letter of a cell. */
    static char letter(int cell) {
        return (char) ('a' + cell);
    }

    /** The cell that a way leads to, or -1; told here as rows and columns. */
    static int behind(int cell, int way) {
        int row = cell / 4 + (way == 4 ? 1 : way == 3 ? -1 : 0);
        int column = cell % 4 + (way == 2 ? 1 : way == 1 ? -1 : 0);
        boolean isThere = row >= 0 && row < 3 && column >= 0 && column < 4;
        return isThere ? 4 * row + column : -1;
    }

    /** Twelve heights, all alike but for one cell's. */
    static String heights(int all, int cell, int its) {
        StringBuilder text = new StringBuilder("M");
        for (int c = 0; c < 12; c++) {
            text.append(c == cell ? its : all);
        }
        return text.toString();
    }
}
