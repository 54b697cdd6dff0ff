/** Promises 15 to 20: what is bared, flooded, reached, how soon home, what can be had, told doings. */
public final class HoursTest {
    private static final Due DUE = new Due("HoursTest");

    public static void main(String[] args) {
        bared();
        flooded();
        reach();
        reachOfBoards();
        home();
        gets();
        getsByTide();
        judge();
        judgedForms();
        nothingChanges();
        DUE.end();
    }

    private static void bared() {
        MudBoards x = Due.onFlat("M012345678900W0W5W9");
        DUE.is("bared(0)", x.bared(0), 0xfff);
        DUE.is("bared(1)", x.bared(1), 0x3e0);
        DUE.is("bared(2)", x.bared(2), 0x200);
        DUE.is("bared(3)", x.bared(3), 0xfff);
        DUE.is("bared(20)", x.bared(20), 0x200);
        DUE.is("bared(21)", x.bared(21), MudBoards.OUTSIDE);
        DUE.is("bared(-1)", x.bared(-1), MudBoards.OUTSIDE);
        x.hour();
        DUE.is("bared(0) an hour on", x.bared(0), 0x3e0);
        DUE.is("bared(2) an hour on", x.bared(2), 0xfff);
    }

    private static void flooded() {
        MudBoards x = Due.onFlat("M012345678900W0W5W9");
        DUE.is("flooded(0)", x.flooded(0), 1);
        DUE.is("flooded(5)", x.flooded(5), 2);
        DUE.is("flooded(9)", x.flooded(9), MudBoards.NONE);
        DUE.is("flooded(12)", x.flooded(12), MudBoards.UNKNOWN);
        DUE.is("flooded(-1)", x.flooded(-1), MudBoards.UNKNOWN);
        x.hour();
        DUE.is("flooded(0) an hour on", x.flooded(0), 0);
        DUE.is("flooded(5) an hour on", x.flooded(5), 1);
        DUE.is("without tides", new MudBoards().flooded(0), MudBoards.NONE);
    }

    private static void reach() {
        MudBoards x = Due.onFlat("M000000000000Lf0La0");
        DUE.is("reach(0, 0)", x.reach(0, 0), 0x020);
        DUE.is("reach(0, 1)", x.reach(0, 1), 0x272);
        DUE.is("reach(1, 1)", x.reach(1, 1), 0x013);
        DUE.is("reach(1, 4)", x.reach(1, 4), 0x7ff);
        DUE.is("reach(1, 5)", x.reach(1, 5), 0xfff);
        DUE.is("reach(1, 9)", x.reach(1, 9), 0xfff);
        x.walk(0, 1);
        DUE.is("walked: reach(0, 0)", x.reach(0, 0), 0x010);
        DUE.is("walked: reach(0, 1)", x.reach(0, 1), 0x010);
        DUE.is("walked: reach(0, 2)", x.reach(0, 2), 0x131);
        DUE.is("reach(2, 0)", x.reach(2, 0), MudBoards.UNKNOWN);
        DUE.is("reach(-1, 10)", x.reach(-1, 10), MudBoards.UNKNOWN);
        DUE.is("reach(0, 10)", x.reach(0, 10), MudBoards.OUTSIDE);
        DUE.is("reach(0, -1)", x.reach(0, -1), MudBoards.OUTSIDE);
    }

    private static void reachOfBoards() {
        // all but a and b are under at every second hour
        String heights = "M220000000000W0W2";
        MudBoards x = Due.onFlat(heights + "La0Ld0La2Lf0");
        DUE.is("board 0 in 1", x.reach(0, 1), 0x003);
        DUE.is("board 0 in 2", x.reach(0, 2), 0x003);
        DUE.is("board 0 in 3", x.reach(0, 3), 0x003);
        DUE.is("too far off", x.reach(1, 1), 0);
        DUE.is("board 2 in 2", x.reach(2, 2), 0x137);
        DUE.is("in time", x.reach(3, 1), 0x002);
        x.hour();
        DUE.is("drowned", x.reach(1, 1), MudBoards.STATE);
        DUE.is("drowned and outside", x.reach(1, 10), MudBoards.OUTSIDE);
        DUE.is("at high water it can only stay, or go to b", x.reach(0, 1), 0x003);
        // told where it does not stand: staying drowns it only if the sea stays
        x = Due.onFlat("M090000000000W5W0La0");
        DUE.is("on a wet cell for an hour", x.reach(0, 1), 0x003);
        DUE.is("by then only b stays", x.reach(0, 2), 0x002);
    }

    private static void home() {
        MudBoards x = Due.onFlat("M000000000000La0Le0Ll0");
        DUE.is("home(0)", x.home(0), 0);
        DUE.is("home(1)", x.home(1), 1);
        DUE.is("home(2)", x.home(2), 2);
        DUE.is("home(3)", x.home(3), MudBoards.UNKNOWN);
        DUE.is("home(-1)", x.home(-1), MudBoards.UNKNOWN);
        x.walk(2, 1);
        DUE.is("walked: home(2)", x.home(2), 3);
        // the way up is open in the sixth hour alone
        x = Due.onFlat("M000099990000W5W5W5W5W5W0Le0");
        DUE.is("the sea is at it again in the next hour", x.home(0), MudBoards.NONE);
        x = Due.onFlat("M000099990000W5W5W5W5W0W0Le0");
        DUE.is("waits for the ebb", x.home(0), 5);
        x = Due.onFlat("M000000009999W9W0Li0Le0");
        DUE.is("never two hours long enough", x.home(0), MudBoards.NONE);
        x.hour();
        x.hour();
        DUE.is("drowned", x.home(1), MudBoards.STATE);
    }

    private static void gets() {
        MudBoards x = Due.onFlat("M000000000000Fa30Fd91Fe92Ff63Fb12La0");
        // in 1 hour: a by staying, b by walking; e takes one hour there, one back
        DUE.is("in 1: clay 3", x.gets(0, 1, 0), 0);
        DUE.is("in 1: how much", x.gets(0, 1, 1), 3);
        x = Due.onFlat("M000000000000Fa30Fd91Fe92Ff93Fb22La0");
        DUE.is("in 1: wet 2 twice, in row 0", x.gets(0, 1, 0), 4);
        DUE.is("in 1: how much", x.gets(0, 1, 1), 4);
        DUE.is("in 3: crown 9 is 4, later than wet's 4? the least", x.gets(0, 3, 0), 3);
        DUE.is("in 3: how much", x.gets(0, 3, 1), 4);
        DUE.is("gets(1, 1, 0)", x.gets(1, 1, 0), MudBoards.UNKNOWN);
        DUE.is("gets(-1, 0, 9)", x.gets(-1, 0, 9), MudBoards.UNKNOWN);
        DUE.is("gets(0, 0, 0)", x.gets(0, 0, 0), MudBoards.OUTSIDE);
        DUE.is("gets(0, 10, 0)", x.gets(0, 10, 0), MudBoards.OUTSIDE);
        DUE.is("gets(0, 1, 2)", x.gets(0, 1, 2), MudBoards.OUTSIDE);
        DUE.is("gets(0, 1, -1)", x.gets(0, 1, -1), MudBoards.OUTSIDE);
        for (int cell = 0; cell < 12; cell++) {
            char letter = (char) ('a' + cell);
            x = Due.onFlat("M000000000000F" + letter + "42Lb0");
            DUE.is("wet at " + letter, x.gets(0, 9, 1), cell < 4 ? 8 : 0);
        }
        x = Due.onFlat("M000000000000Fd91Fh92La0");
        DUE.is("none in 2", x.gets(0, 2, 0), MudBoards.NONE);
        DUE.is("none in 2", x.gets(0, 2, 1), MudBoards.NONE);
        DUE.is("bronze is one", x.gets(0, 3, 0), 0);
        DUE.is("of no worth", x.gets(0, 3, 1), 0);
        DUE.is("wet afar is of no worth", x.gets(0, 9, 0), 0);
        x = Due.onFlat("M000000000000Fa90Fb50La0La0");
        x.dig(1, 0);
        DUE.is("only what lies", x.gets(0, 1, 0), 1);
        x.walk(0, 4);
        DUE.is("walked: home in 2 only", x.gets(0, 2, 0), MudBoards.NONE);
        DUE.is("walked: b in 3", x.gets(0, 3, 0), 1);
    }

    private static void getsByTide() {
        // e is bared at low water alone; the lark stands there all the same
        MudBoards x = Due.onFlat("M999900000000W3W3W0W3Fe70La3");
        DUE.is("in 1", x.gets(0, 1, 0), MudBoards.NONE);
        DUE.is("in 2, but not back", x.gets(0, 2, 0), MudBoards.NONE);
        DUE.is("in 3", x.gets(0, 3, 1), 7);
        // its own cell now, and home in the hour
        x = Due.onFlat("M999900000000W0W0W9Fe70Le0");
        DUE.is("now", x.gets(0, 1, 0), 0);
        x.hour();
        DUE.is("an hour on", x.gets(0, 1, 0), 0);
        x.walk(0, 4);
        DUE.is("gone down", x.gets(0, 9, 0), MudBoards.NONE);
        x.hour();
        DUE.is("drowned", x.gets(0, 9, 0), MudBoards.STATE);
        DUE.is("drowned and outside", x.gets(0, 10, 0), MudBoards.OUTSIDE);
    }

    private static void judge() {
        MudBoards x = Due.onFlat("M000000000000W0W1Fa50Fb70La1Lb0");
        DUE.is("an hour", x.judge(1, 0), MudBoards.NONE);
        DUE.is("four hours", x.judge(4, 0), MudBoards.NONE);
        DUE.is("walked", x.judge(1, 102), MudBoards.NONE);
        DUE.is("walked twice", x.judge(2, 102101), 1);
        DUE.is("walked, an hour, walked", x.judge(3, 102000101), MudBoards.NONE);
        DUE.is("dug, sold, 5 coins, not drowned", x.judge(4, 200300405500L), MudBoards.NONE);
        DUE.is("dug, sold, 6 coins", x.judge(3, 200300406), 2);
        DUE.is("sold ahead of dug", x.judge(2, 300200), 0);
        DUE.is("an hour, lark 1 lives", x.judge(2, 501), 1);
        DUE.is("an hour, lark 0 lives", x.judge(2, 500), MudBoards.NONE);
        DUE.is("an hour, dug where it is not bared", x.judge(2, 200), 1);
        DUE.is("lark 1, find 1", x.judge(1, 211), MudBoards.NONE);
        DUE.is("lark 1, find 0", x.judge(1, 210), 0);
        DUE.is("walked, dug, sold, 7 coins", x.judge(4, 102201300407L), MudBoards.NONE);
        DUE.is("no coins is 0 or more", x.judge(1, 410), MudBoards.NONE);
        DUE.is("coins of the drowned", x.judge(4, 211301000417L), MudBoards.NONE);
    }

    private static void judgedForms() {
        MudBoards x = Due.onFlat("M000000000000W0W1Fa50La1");
        int[] never = {1, 10, 99, 100, 105, 110, 201, 210, 310, 301, 311, 410, 490, 510, 501, 511, 600, 700, 999};
        for (int doing : never) {
            DUE.is("judge(1, " + doing + ")", x.judge(1, doing), 0);
            DUE.is("judge(2, " + doing + ")", x.judge(2, doing), 1);
        }
        DUE.is("judge(0, 0)", x.judge(0, 0), MudBoards.OUTSIDE);
        DUE.is("judge(5, 0)", x.judge(5, 0), MudBoards.OUTSIDE);
        DUE.is("judge(1, -1)", x.judge(1, -1), MudBoards.OUTSIDE);
        DUE.is("judge(1, 1000)", x.judge(1, 1000), MudBoards.OUTSIDE);
        DUE.is("judge(4, 10^12)", x.judge(4, 1000000000000L), MudBoards.OUTSIDE);
        DUE.is("judge(4, 10^12 - 1)", x.judge(4, 999999999999L), 0);
        DUE.is("judge(4, most)", x.judge(4, Long.MAX_VALUE), MudBoards.OUTSIDE);
        DUE.is("judge(4, least)", x.judge(4, Long.MIN_VALUE), MudBoards.OUTSIDE);
    }

    private static void nothingChanges() {
        MudBoards x = Due.onFlat("M000000000000W0W1Fa50Fb70La1Lb0");
        x.judge(4, 102201300407L);
        x.judge(2, 501);
        x.reach(0, 9);
        x.gets(0, 9, 0);
        x.rests(0, 1, 0);
        x.share(0, true);
        x.springs(30);
        DUE.is("acts", x.count(11), 0);
        DUE.is("hour", x.count(4), 0);
        DUE.is("drowned", x.count(9), 0);
        DUE.is("lying", x.count(6), 3);
        DUE.is("coins", x.count(10), 0);
        DUE.is("lark 0", x.lark(0, 0), 0);
        DUE.is("lark 0 walked", x.lark(0, 5), 0);
    }
}
