import java.util.ArrayList;
import java.util.List;

/** Sides from which other calls show an object; each view is asked of an object of its own, since some change it. */
enum View {
    TEXT, PLACES, AHEAD, CHANCES, SEEN, SEED, ACTS, SLOT_0, SLOT_1;

    private static final long[] SPRING_SEEDS = {1, 5, 9, 12, 31};

    /** All that is shown from here, in some 200 calls at most. */
    List<Long> of(MudBoards x) {
        List<Long> shown = new ArrayList<>();
        switch (this) {
            case TEXT -> text(x, shown);
            case PLACES -> places(x, shown);
            case AHEAD -> ahead(x, shown);
            case CHANCES -> chances(x, shown);
            case SEEN -> add(shown, x.count(12), x.phases(), x.unsee());
            case SEED -> shown.add(x.seed(0));
            case ACTS -> acts(x, shown);
            case SLOT_0 -> slot(x, 0, shown);
            case SLOT_1 -> slot(x, 1, shown);
        }
        return shown;
    }

    private static void add(List<Long> shown, long... answers) {
        for (long answer : answers) {
            shown.add(answer);
        }
    }

    /** What the letters are shows when they are made the flat, if need be with a last figure. */
    private static void text(MudBoards x, List<Long> shown) {
        add(shown, x.count(0), x.fault());
        int made = x.flat();
        if (made < 0) {
            add(shown, x.write('7'), x.fault());
            made = x.flat();
        }
        add(shown, made);
        if (made >= 0) {
            places(x, shown);
        }
        add(shown, x.wipe());
    }

    private static void places(MudBoards x, List<Long> shown) {
        for (int what = 1; what <= 10; what++) {
            add(shown, x.count(what));
        }
        for (int cell = 0; cell < 12; cell++) {
            add(shown, x.cell(cell, 0), x.cell(cell, 1), x.cell(cell, 2), x.cell(cell, 3));
        }
        for (int find = 0; find < 5; find++) {
            for (int what = 0; what <= 4; what++) {
                add(shown, x.find(find, what));
            }
        }
        for (int lark = 0; lark < 4; lark++) {
            for (int what = 0; what <= 5; what++) {
                add(shown, x.lark(lark, what));
            }
        }
    }

    private static void ahead(MudBoards x, List<Long> shown) {
        for (int n = 0; n <= 20; n++) {
            add(shown, x.bared(n));
        }
        for (int cell = 0; cell < 12; cell++) {
            add(shown, x.flooded(cell));
        }
        for (int lark = 0; lark < 4; lark++) {
            add(shown, x.home(lark), x.judge(1, 300 + lark), x.judge(1, 500 + lark), x.judge(2, 500 + lark));
            // whether a wet find was dug in the hour shows by what it brings
            add(shown, x.judge(2, 300409 + 1010 * lark));
            for (int n = 0; n <= 9; n++) {
                add(shown, x.reach(lark, n), x.gets(lark, n, 0), x.gets(lark, n, 1));
            }
        }
    }

    private static void chances(MudBoards x, List<Long> shown) {
        for (int lark = 0; lark < 4; lark++) {
            add(shown, x.share(lark, true), x.share(lark, false));
            for (int n = 1; n <= 6; n++) {
                add(shown, x.storms(lark, n, 3, true), x.storms(lark, n, 3, false));
            }
            for (int other = 0; other < 4; other++) {
                add(shown, x.rests(lark, other, 0), x.rests(lark, other, 1));
            }
        }
        for (long seed : SPRING_SEEDS) {
            x.seed(seed);
            add(shown, x.springs(30));
        }
    }

    /** What an act was shows when it is undone. */
    private static void acts(MudBoards x, List<Long> shown) {
        add(shown, x.count(11));
        for (int i = 0; i < 15; i++) {
            add(shown, x.undo());
            for (int what = 4; what <= 10; what++) {
                add(shown, x.count(what));
            }
            for (int lark = 0; lark < 4; lark++) {
                add(shown, x.lark(lark, 0), x.lark(lark, 5));
            }
        }
    }

    private static void slot(MudBoards x, int slot, List<Long> shown) {
        int hour = x.again(slot);
        add(shown, hour);
        if (hour >= 0) {
            places(x, shown);
            add(shown, x.undo(), x.sell(0), x.sell(1), x.sell(2), x.sell(3));
        }
    }
}
