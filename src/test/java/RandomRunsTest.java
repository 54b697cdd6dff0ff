import java.util.ArrayList;
import java.util.List;
import java.util.Random;

/** Promises 1 to 31: random runs of 512 calls, each answer held against the model's; the seeds never change. */
public final class RandomRunsTest {
    private static final Due DUE = new Due("RandomRunsTest");
    private static final int RUNS = 400;
    private static final int CALLS = 512;

    private final Random random;
    private final MudBoards boards = new MudBoards();
    private final Model model = new Model();
    private final int run;
    private final int wild;

    private RandomRunsTest(int run) {
        this.run = run;
        this.random = new Random(run);
        this.wild = run % 4 == 0 ? 8 : 60;
    }

    public static void main(String[] args) {
        for (int run = 0; run < RUNS; run++) {
            new RandomRunsTest(run).go();
        }
        DUE.end();
    }

    private void go() {
        int calls = 0;
        while (calls < CALLS) {
            if (calls == 0 || random.nextInt(90) == 0) {
                calls += tellFlat();
            } else {
                call(random.nextInt(31));
                calls++;
            }
        }
    }

    /** A number of a range; now and then one outside it. */
    private int number(int least, int most) {
        if (random.nextInt(wild) == 0) {
            int[] odd = {least - 1, most + 1, Integer.MIN_VALUE, Integer.MAX_VALUE, -9, random.nextInt()};
            return odd[random.nextInt(odd.length)];
        }
        return least + random.nextInt(most - least + 1);
    }

    private String flatText() {
        StringBuilder s = new StringBuilder("M");
        int spread = 1 + random.nextInt(10);
        for (int i = 0; i < 12; i++) {
            s.append(random.nextInt(spread));
        }
        List<String> parts = new ArrayList<>();
        int tides = random.nextInt(7);
        for (int i = 0; i < tides; i++) {
            parts.add("W" + random.nextInt(Math.min(10, spread + 2)));
        }
        int finds = 5 - random.nextInt(1 + random.nextInt(6));
        for (int i = 0; i < finds; i++) {
            parts.add("F" + cellLetter() + (1 + random.nextInt(9)) + random.nextInt(4));
        }
        int larks = 4 - random.nextInt(1 + random.nextInt(5));
        for (int i = 0; i < larks; i++) {
            parts.add("L" + cellLetter() + random.nextInt(4));
        }
        java.util.Collections.shuffle(parts, random);
        parts.forEach(s::append);
        if (random.nextInt(wild) == 0) {
            s.setCharAt(random.nextInt(s.length()), (char) random.nextInt(256));
        }
        if (random.nextInt(wild) == 0) {
            s.setLength(random.nextInt(s.length()));
        }
        if (random.nextInt(wild) == 0) {
            s.append("MWFL0a".charAt(random.nextInt(6)));
        }
        return s.toString();
    }

    private char cellLetter() {
        return (char) ('a' + random.nextInt(random.nextBoolean() ? 12 : 5));
    }

    private int tellFlat() {
        String text = flatText();
        DUE.is(named("wipe()"), boards.wipe(), model.wipe());
        for (int i = 0; i < text.length(); i++) {
            DUE.is(named("write"), boards.write(text.charAt(i)), model.write(text.charAt(i)));
        }
        DUE.is(named("fault() of " + text), boards.fault(), model.fault());
        DUE.is(named("flat() of " + text), boards.flat(), model.flat());
        return text.length() + 3;
    }

    private String named(String call) {
        return "run " + run + ": " + call;
    }

    private void call(int which) {
        int lark = number(0, 3);
        int find = number(0, 4);
        int cell = number(0, 11);
        if (which < 8) {
            telling(which, lark, find, cell);
        } else if (which < 14) {
            acting(random.nextInt(13), lark, find);
        } else if (which < 20) {
            foretelling(which, lark, cell);
        } else if (which < 26) {
            chances(which, lark, cell);
        } else {
            keeping(which);
        }
    }

    private void telling(int which, int lark, int find, int cell) {
        int what = number(0, 5);
        switch (which) {
            case 0 -> {
                int letter = number(0, 255);
                DUE.is(named("write(" + letter + ")"), boards.write(letter), model.write(letter));
            }
            case 1 -> DUE.is(named("fault()"), boards.fault(), model.fault());
            case 2 -> DUE.is(named("cell(" + cell + ", " + what + ")"), boards.cell(cell, what), model.cell(cell, what));
            case 3, 4 -> DUE.is(named("find(" + find + ", " + what + ")"), boards.find(find, what), model.find(find, what));
            case 5, 6 -> DUE.is(named("lark(" + lark + ", " + what + ")"), boards.lark(lark, what), model.lark(lark, what));
            default -> all();
        }
    }

    /** Everything that is told of where things stand. */
    private void all() {
        for (int what = 0; what <= 12; what++) {
            DUE.is(named("count(" + what + ")"), boards.count(what), model.count(what));
        }
        for (int i = 0; i < 5; i++) {
            for (int what = 0; what <= 5; what++) {
                DUE.is(named("find(" + i + ", " + what + ")"), boards.find(i, what), model.find(i, what));
                DUE.is(named("lark(" + i + ", " + what + ")"), boards.lark(i, what), model.lark(i, what));
            }
        }
    }

    private void acting(int which, int lark, int find) {
        int way = number(1, 4);
        switch (which) {
            case 0, 1, 2, 3 -> DUE.is(named("walk(" + lark + ", " + way + ")"), boards.walk(lark, way), model.walk(lark, way));
            case 4 -> DUE.is(named("hour()"), boards.hour(), model.hour());
            case 5 -> DUE.is(named("put(" + lark + ")"), boards.put(lark), model.put(lark));
            case 6, 12 -> DUE.is(named("sell(" + lark + ")"), boards.sell(lark), model.sell(lark));
            case 7 -> DUE.is(named("undo()"), boards.undo(), model.undo());
            default -> {
                for (int f = 0; f < 5; f++) {
                    DUE.is(named("dig(" + lark + ", " + f + ")"), boards.dig(lark, f), model.dig(lark, f));
                }
                DUE.is(named("dig(" + lark + ", " + find + ")"), boards.dig(lark, find), model.dig(lark, find));
            }
        }
    }

    private void foretelling(int which, int lark, int cell) {
        int n = number(0, 9);
        int what = number(0, 1);
        switch (which) {
            case 14 -> {
                int far = number(0, 20);
                DUE.is(named("bared(" + far + ")"), boards.bared(far), model.bared(far));
            }
            case 15 -> DUE.is(named("flooded(" + cell + ")"), boards.flooded(cell), model.flooded(cell));
            case 16 -> DUE.is(named("reach(" + lark + ", " + n + ")"), boards.reach(lark, n), model.reach(lark, n));
            case 17 -> DUE.is(named("home(" + lark + ")"), boards.home(lark), model.home(lark));
            case 18 -> DUE.is(named("gets(" + lark + ", " + n + ", " + what + ")"),
                boards.gets(lark, n, what), model.gets(lark, n, what));
            default -> judging();
        }
    }

    private void judging() {
        int n = number(1, 4);
        long row = 0;
        for (int i = 0; i < Math.min(4, Math.max(1, n)); i++) {
            int lark = random.nextInt(3);
            int[] doings = {0, 100 + 10 * lark + 1 + random.nextInt(4), 200 + 10 * lark + random.nextInt(5),
                300 + lark, 400 + 10 * lark + random.nextInt(4), 500 + lark, random.nextInt(1000)};
            row = row * 1000 + doings[random.nextInt(random.nextInt(wild) == 0 ? 7 : 6)];
        }
        if (random.nextInt(wild) == 0) {
            long[] odd = {-1, Long.MIN_VALUE, Long.MAX_VALUE, 1000, 1000000, 1000000000, 1000000000000L, random.nextLong()};
            row = odd[random.nextInt(odd.length)];
        }
        DUE.is(named("judge(" + n + ", " + row + ")"), boards.judge(n, row), model.judge(n, row));
    }

    private void chances(int which, int lark, int cell) {
        int other = number(0, 3);
        int what = number(0, 1);
        boolean upper = random.nextBoolean();
        switch (which) {
            case 20 -> {
                int n = number(0, 9);
                DUE.is(named("see(" + cell + ", " + n + ", " + what + ")"), boards.see(cell, n, what), model.see(cell, n, what));
                DUE.is(named("phases()"), boards.phases(), model.phases());
            }
            case 21 -> {
                if (random.nextInt(5) == 0) {
                    DUE.is(named("unsee()"), boards.unsee(), model.unsee());
                }
                DUE.is(named("phases()"), boards.phases(), model.phases());
            }
            case 22 -> {
                DUE.is(named("share(" + lark + ", true)"), boards.share(lark, true), model.share(lark, true));
                DUE.is(named("share(" + lark + ", false)"), boards.share(lark, false), model.share(lark, false));
            }
            case 23, 24 -> DUE.is(named("rests(" + lark + ", " + other + ", " + what + ")"),
                boards.rests(lark, other, what), model.rests(lark, other, what));
            default -> {
                int n = number(1, 6);
                int x = number(0, 10);
                DUE.is(named("storms(" + lark + ", " + n + ", " + x + ", " + upper + ")"),
                    boards.storms(lark, n, x, upper), model.storms(lark, n, x, upper));
            }
        }
    }

    private void keeping(int which) {
        int slot = number(0, 1);
        switch (which) {
            case 26 -> {
                long v = random.nextLong();
                DUE.is(named("seed(" + v + ")"), boards.seed(v), model.seed(v));
            }
            case 27 -> {
                int m = number(1, 30);
                DUE.is(named("springs(" + m + ")"), boards.springs(m), model.springs(m));
            }
            case 28 -> DUE.is(named("keep(" + slot + ")"), boards.keep(slot), model.keep(slot));
            case 29 -> {
                if (random.nextInt(4) == 0) {
                    DUE.is(named("again(" + slot + ")"), boards.again(slot), model.again(slot));
                }
            }
            default -> {
                int what = number(0, 12);
                DUE.is(named("count(" + what + ")"), boards.count(what), model.count(what));
            }
        }
    }
}
