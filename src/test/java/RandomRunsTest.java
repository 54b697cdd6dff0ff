import java.util.ArrayList;
import java.util.List;
import java.util.Random;
import java.util.function.ToLongFunction;

/** Promises 1 to 31: random runs of 512 calls, each answer held against the model's; the seeds never change. */
public final class RandomRunsTest {
    private static final Due DUE = new Due("RandomRunsTest");
    private static final int RUNS = 1500;
    private static final int CALLS = 512;

    private final Random random;
    private final MudBoards boards = new MudBoards();
    private final Model model = new Model();
    private final int run;
    private final int wild;
    private int calls;

    private RandomRunsTest(int run) {
        this.run = run;
        this.random = new Random(run);
        this.wild = run % 4 == 0 ? 8 : 60;
    }

    public static void main(String[] args) {
        for (int run = 0; run < RUNS; run++) {
            new RandomRunsTest(run).go();
        }
        DUE.end();
    }

    private void go() {
        tellFlat();
        while (calls < CALLS) {
            if (random.nextInt(120) == 0) {
                tellFlat();
            } else {
                call(random.nextInt(31));
            }
        }
    }

    /** One call of both; none behind the 512th, as what is answered there is free. */
    private void ask(String name, ToLongFunction<MudBoards> call, ToLongFunction<Model> due) {
        if (calls < CALLS) {
            calls++;
            DUE.is("run " + run + ", call " + calls + ": " + name, call.applyAsLong(boards), due.applyAsLong(model));
        }
    }

    /** A number of a range; now and then one outside it. */
    private int number(int least, int most) {
        if (random.nextInt(wild) == 0) {
            int[] odd = {least - 1, most + 1, Integer.MIN_VALUE, Integer.MAX_VALUE, -9, random.nextInt()};
            return odd[random.nextInt(odd.length)];
        }
        return least + random.nextInt(most - least + 1);
    }

    private String flatText() {
        StringBuilder s = new StringBuilder("M");
        int spread = 1 + random.nextInt(10);
        for (int i = 0; i < 12; i++) {
            s.append(random.nextInt(spread));
        }
        List<String> parts = new ArrayList<>();
        int tides = random.nextInt(7);
        for (int i = 0; i < tides; i++) {
            parts.add("W" + random.nextInt(Math.min(10, spread + 2)));
        }
        int finds = 5 - random.nextInt(1 + random.nextInt(6));
        for (int i = 0; i < finds; i++) {
            parts.add("F" + cellLetter() + (1 + random.nextInt(9)) + random.nextInt(4));
        }
        int larks = 4 - random.nextInt(1 + random.nextInt(5));
        for (int i = 0; i < larks; i++) {
            parts.add("L" + cellLetter() + random.nextInt(4));
        }
        java.util.Collections.shuffle(parts, random);
        parts.forEach(s::append);
        if (random.nextInt(wild) == 0) {
            s.setCharAt(random.nextInt(s.length()), (char) random.nextInt(256));
        }
        if (random.nextInt(wild) == 0) {
            s.setLength(random.nextInt(s.length()));
        }
        if (random.nextInt(wild) == 0) {
            s.append("MWFL0a".charAt(random.nextInt(6)));
        }
        return s.toString();
    }

    private char cellLetter() {
        return (char) ('a' + random.nextInt(random.nextBoolean() ? 12 : 5));
    }

    private void tellFlat() {
        String text = flatText();
        ask("wipe()", x -> x.wipe(), m -> m.wipe());
        for (char letter : text.toCharArray()) {
            ask("write(" + (int) letter + ")", x -> x.write(letter), m -> m.write(letter));
        }
        ask("fault() of " + text, x -> x.fault(), m -> m.fault());
        ask("flat() of " + text, x -> x.flat(), m -> m.flat());
    }

    private void call(int which) {
        int lark = number(0, 3);
        int find = number(0, 4);
        int cell = number(0, 11);
        if (which < 8) {
            telling(which, lark, find, cell);
        } else if (which < 14) {
            acting(random.nextInt(13), lark, find);
        } else if (which < 20) {
            foretelling(which, lark, cell);
        } else if (which < 26) {
            chances(which, lark, cell);
        } else {
            keeping(which);
        }
    }

    private void telling(int which, int lark, int find, int cell) {
        int what = number(0, 5);
        switch (which) {
            case 0 -> {
                int letter = number(0, 255);
                ask("write(" + letter + ")", x -> x.write(letter), m -> m.write(letter));
            }
            case 1 -> ask("fault()", x -> x.fault(), m -> m.fault());
            case 2 -> ask("cell(" + cell + ", " + what + ")", x -> x.cell(cell, what), m -> m.cell(cell, what));
            case 3, 4 -> ask("find(" + find + ", " + what + ")", x -> x.find(find, what), m -> m.find(find, what));
            case 5, 6 -> ask("lark(" + lark + ", " + what + ")", x -> x.lark(lark, what), m -> m.lark(lark, what));
            default -> {
                if (random.nextInt(4) == 0) {
                    all();
                }
            }
        }
    }

    /** Everything that is told of where things stand. */
    private void all() {
        for (int what : Edge.inside(0, 12)) {
            ask("count(" + what + ")", x -> x.count(what), m -> m.count(what));
        }
        for (int i : Edge.inside(0, 4)) {
            for (int what : Edge.inside(0, 5)) {
                ask("find(" + i + ", " + what + ")", x -> x.find(i, what), m -> m.find(i, what));
                ask("lark(" + i + ", " + what + ")", x -> x.lark(i, what), m -> m.lark(i, what));
            }
        }
    }

    private void acting(int which, int lark, int find) {
        int way = number(1, 4);
        switch (which) {
            case 0, 1, 2, 3 -> ask("walk(" + lark + ", " + way + ")", x -> x.walk(lark, way), m -> m.walk(lark, way));
            case 4 -> ask("hour()", x -> x.hour(), m -> m.hour());
            case 5 -> ask("put(" + lark + ")", x -> x.put(lark), m -> m.put(lark));
            case 6, 12 -> ask("sell(" + lark + ")", x -> x.sell(lark), m -> m.sell(lark));
            case 7 -> ask("undo()", x -> x.undo(), m -> m.undo());
            default -> {
                for (int f : Edge.inside(0, 4)) {
                    ask("dig(" + lark + ", " + f + ")", x -> x.dig(lark, f), m -> m.dig(lark, f));
                }
                ask("dig(" + lark + ", " + find + ")", x -> x.dig(lark, find), m -> m.dig(lark, find));
            }
        }
    }

    private void foretelling(int which, int lark, int cell) {
        int n = number(0, 9);
        int what = number(0, 1);
        switch (which) {
            case 14 -> {
                int far = number(0, 20);
                ask("bared(" + far + ")", x -> x.bared(far), m -> m.bared(far));
            }
            case 15 -> ask("flooded(" + cell + ")", x -> x.flooded(cell), m -> m.flooded(cell));
            case 16 -> ask("reach(" + lark + ", " + n + ")", x -> x.reach(lark, n), m -> m.reach(lark, n));
            case 17 -> ask("home(" + lark + ")", x -> x.home(lark), m -> m.home(lark));
            case 18 -> ask("gets(" + lark + ", " + n + ", " + what + ")",
                x -> x.gets(lark, n, what), m -> m.gets(lark, n, what));
            default -> judging();
        }
    }

    private void judging() {
        int n = number(1, 4);
        long row = doings(n);
        ask("judge(" + n + ", " + row + ")", x -> x.judge(n, row), m -> m.judge(n, row));
    }

    private long doings(int n) {
        long row = 0;
        for (int i = 0; i < Math.min(4, Math.max(1, n)); i++) {
            int lark = random.nextInt(3);
            int[] doings = {0, 100 + 10 * lark + 1 + random.nextInt(4), 200 + 10 * lark + random.nextInt(5),
                300 + lark, 400 + 10 * lark + random.nextInt(4), 500 + lark, random.nextInt(1000)};
            row = row * 1000 + doings[random.nextInt(random.nextInt(wild) == 0 ? 7 : 6)];
        }
        if (random.nextInt(wild) == 0) {
            long[] odd = {-1, Long.MIN_VALUE, Long.MAX_VALUE, 1000, 1000000, 1000000000, 1000000000000L, random.nextLong()};
            row = odd[random.nextInt(odd.length)];
        }
        return row;
    }

    private void chances(int which, int lark, int cell) {
        int other = number(0, 3);
        int what = number(0, 1);
        boolean upper = random.nextBoolean();
        switch (which) {
            case 20 -> {
                int n = number(0, 9);
                ask("see(" + cell + ", " + n + ", " + what + ")", x -> x.see(cell, n, what), m -> m.see(cell, n, what));
                ask("phases()", x -> x.phases(), m -> m.phases());
            }
            case 21 -> {
                if (random.nextInt(5) == 0) {
                    ask("unsee()", x -> x.unsee(), m -> m.unsee());
                }
                ask("phases()", x -> x.phases(), m -> m.phases());
            }
            case 22 -> {
                ask("share(" + lark + ", true)", x -> x.share(lark, true), m -> m.share(lark, true));
                ask("share(" + lark + ", false)", x -> x.share(lark, false), m -> m.share(lark, false));
            }
            case 23, 24 -> ask("rests(" + lark + ", " + other + ", " + what + ")",
                x -> x.rests(lark, other, what), m -> m.rests(lark, other, what));
            default -> {
                int n = number(1, 6);
                int tenths = number(0, 10);
                ask("storms(" + lark + ", " + n + ", " + tenths + ", " + upper + ")",
                    x -> x.storms(lark, n, tenths, upper), m -> m.storms(lark, n, tenths, upper));
            }
        }
    }

    private void keeping(int which) {
        int slot = number(0, 1);
        switch (which) {
            case 26 -> {
                long v = random.nextLong();
                ask("seed(" + v + ")", x -> x.seed(v), m -> m.seed(v));
            }
            case 27 -> {
                int times = number(1, 30);
                ask("springs(" + times + ")", x -> x.springs(times), m -> m.springs(times));
            }
            case 28 -> ask("keep(" + slot + ")", x -> x.keep(slot), m -> m.keep(slot));
            case 29 -> {
                if (random.nextInt(4) == 0) {
                    ask("again(" + slot + ")", x -> x.again(slot), m -> m.again(slot));
                }
            }
            default -> {
                int what = number(0, 12);
                ask("count(" + what + ")", x -> x.count(what), m -> m.count(what));
            }
        }
    }
}
