/** Each sentence on hours to come that names an edge: promises 15 to 20. */
public final class HoursEdgesTest {
    private static final Due DUE = new Due("HoursEdgesTest");
    private static final String LOW = "M000000000000";
    private static final int NONE = MudBoards.NONE;
    // one path alone is never under: a, e, i, j, k, l, h, d, c
    private static final String PATH = "M505550055555W5";
    // the same, but l is its end: the wall is a alone
    private static final String DEAD_END = "M500050005555W5";

    public static void main(String[] args) {
        inSoManyHours();
        floodedFirst();
        floodedNever();
        reachOfNoHours();
        reachOfOneHour();
        reachUpToNine();
        reachRefused();
        reachWhenWalked();
        reachOfTheDoomed();
        homeByTheWall();
        homeInTwenty();
        homeNever();
        homeRefused();
        getsRefused();
        getsHereAndNow();
        getsInOne();
        getsInNine();
        getsWhatLies();
        getsWhatIsBared();
        getsAheadOfTheFlood();
        getsOfEachLark();
        getsByOnesOwnBoard();
        getsByWorth();
        getsTheLeast();
        DUE.end();
    }

    private static void inSoManyHours() {
        DUE.of("IN n HOURS (0 to 20): CELLS that are BARED (bits).");
        MudBoards x = Due.onFlat("M012345678900W0W5W9W1W0W9");
        int[] waters = {0xfff, 0x3e0, 0x200, 0x3fe, 0xfff, 0x200};
        for (int hour = 0; hour < 7; hour++) {
            for (int n : Edge.inside(0, 20)) {
                DUE.is("bared(" + n + ") in hour " + hour, x.bared(n), waters[(hour + n) % 6]);
            }
            for (int n : Edge.outside(0, 20)) {
                DUE.is("bared(" + n + ") in hour " + hour, x.bared(n), MudBoards.OUTSIDE);
            }
            x.hour();
        }
        DUE.is("none at all", Due.onFlat(LOW + "W9").bared(0), 0);
        DUE.is("without tides all", Due.onFlat(LOW).bared(20), 0xfff);
    }

    private static void floodedFirst() {
        DUE.of("FLOODED for a CELL: in how many HOURS (0 to 20) it is not BARED first; NONE.");
        MudBoards x = Due.onFlat("M899999999987W7W7W7W7W8W9");
        int[] dueOfEight = {5, 4, 3, 2, 1, 0};
        int[] dueOfSeven = {4, 3, 2, 1, 0, 0};
        for (int hour = 0; hour < 13; hour++) {
            DUE.is("height 8 in hour " + hour, x.flooded(0), dueOfEight[hour % 6]);
            DUE.is("height 8 in hour " + hour, x.flooded(10), dueOfEight[hour % 6]);
            DUE.is("height 7 in hour " + hour, x.flooded(11), dueOfSeven[hour % 6]);
            DUE.is("height 9 in hour " + hour, x.flooded(1), NONE);
            x.hour();
        }
        for (int cell : Edge.outside(0, 11)) {
            DUE.is("flooded(" + cell + ")", x.flooded(cell), MudBoards.UNKNOWN);
        }
    }

    private static void floodedNever() {
        MudBoards none = new MudBoards();
        MudBoards nought = Due.onFlat(LOW + "W0");
        MudBoards always = Due.onFlat(LOW + "W1");
        for (int cell : Edge.inside(0, 11)) {
            DUE.is("without tides", none.flooded(cell), NONE);
            DUE.is("by a tide of 0", nought.flooded(cell), NONE);
            DUE.is("by a tide of 1", always.flooded(cell), 0);
        }
    }

    private static void reachOfNoHours() {
        DUE.of("0 HOURS: its own.");
        for (int cell = 0; cell < 12; cell++) {
            MudBoards x = Due.onFlat(LOW + "W9L" + Edge.letter(cell) + "0");
            DUE.is("reach(0, 0) at " + cell + ", though it does not stand there", x.reach(0, 0), 1 << cell);
            x = Due.onFlat(LOW + "L" + Edge.letter(cell) + "0");
            DUE.is("reach(0, 0) at " + cell, x.reach(0, 0), 1 << cell);
        }
        MudBoards x = Due.onFlat(LOW + "La0");
        x.walk(0, 4);
        DUE.is("reach(0, 0) when it has walked", x.reach(0, 0), 1 << 4);
    }

    private static void reachOfOneHour() {
        DUE.of("REACH of a LARK in n HOURS (0 to 9): CELLS (bits) on which it may be when n HOURS more are over, "
            + "if ahead of each of them it goes a WAY or stays, as WALKED");
        for (int cell = 0; cell < 12; cell++) {
            int due = 1 << cell;
            for (int way = 1; way <= 4; way++) {
                due |= Edge.behind(cell, way) < 0 ? 0 : 1 << Edge.behind(cell, way);
            }
            DUE.is("reach(0, 1) at " + cell, Due.onFlat(LOW + "L" + Edge.letter(cell) + "0").reach(0, 1), due);
        }
        int[] due = {0x001, 0x013, 0x137, 0x37f, 0x7ff, 0xfff, 0xfff, 0xfff, 0xfff, 0xfff};
        MudBoards x = Due.onFlat(LOW + "La0");
        for (int n = 0; n <= 9; n++) {
            DUE.is("reach(0, " + n + ") at 0", x.reach(0, n), due[n]);
        }
    }

    private static void reachUpToNine() {
        int[] due = {0x001, 0x001, 0x011, 0x111, 0x311, 0x711, 0xf11, 0xf91, 0xf99, 0xf9d};
        MudBoards x = Due.onFlat(PATH + "Lb0");
        x.walk(0, 1);
        for (int n = 0; n <= 9; n++) {
            DUE.is("walked to a: reach(0, " + n + ")", x.reach(0, n), due[n]);
        }
        x.hour();
        for (int n = 0; n <= 8; n++) {
            DUE.is("an hour on: reach(0, " + n + ")", x.reach(0, n), due[n + 1]);
        }
        DUE.is("an hour on: reach(0, 9)", x.reach(0, 9), 0xf9d);
    }

    private static void reachRefused() {
        DUE.of("`int reach(int lark, int n)`: REACH, as bits. UNKNOWN; OUTSIDE: n; STATE: it is DROWNED.");
        MudBoards x = Due.onFlat("M900000000000W0W9La0Lb0");
        x.hour();
        for (int lark : Edge.outside(0, 1)) {
            DUE.is("reach(" + lark + ", 0)", x.reach(lark, 0), MudBoards.UNKNOWN);
            DUE.is("reach(" + lark + ", 10): of both the first", x.reach(lark, 10), MudBoards.UNKNOWN);
            DUE.is("reach(" + lark + ", -1): of both the first", x.reach(lark, -1), MudBoards.UNKNOWN);
        }
        for (int n : Edge.outside(0, 9)) {
            DUE.is("reach(0, " + n + ")", x.reach(0, n), MudBoards.OUTSIDE);
            DUE.is("reach(1, " + n + ") of the drowned: of both the first", x.reach(1, n), MudBoards.OUTSIDE);
        }
        for (int n : Edge.inside(0, 9)) {
            DUE.is("reach(0, " + n + ")", x.reach(0, n), 1);
            DUE.is("reach(1, " + n + ") of the drowned", x.reach(1, n), MudBoards.STATE);
        }
    }

    private static void reachWhenWalked() {
        DUE.of("(in THE HOUR only, if it has not WALKED in it)");
        MudBoards x = Due.onFlat(LOW + "Lb0La0");
        x.walk(0, 1);
        int[] due = {0x001, 0x001, 0x013, 0x137, 0x37f, 0x7ff, 0xfff};
        for (int n = 0; n < due.length; n++) {
            DUE.is("reach(0, " + n + ")", x.reach(0, n), due[n]);
        }
        DUE.is("another has not walked", x.reach(1, 1), 0x013);
        x.undo();
        DUE.is("nor has it, as that is undone", x.reach(0, 1), 0x027);
        x.walk(0, 1);
        x.hour();
        DUE.is("nor in the next hour", x.reach(0, 1), 0x013);
    }

    private static void reachOfTheDoomed() {
        DUE.of("and is never DROWNED");
        MudBoards x = Due.onFlat("M600000000000W0W0W6La0Lb0Lc0Lf1");
        DUE.is("by staying on 6", x.reach(0, 3), 0x001);
        DUE.is("back to 6 in two", x.reach(1, 2), 0x001);
        DUE.is("anywhere in one", x.reach(1, 1), 0x027);
        DUE.is("two cells off, in two", x.reach(2, 2), 0x001);
        DUE.is("a board of 1 is too low", x.reach(3, 2), 0x001);
        x.hour();
        DUE.is("one cell off, in one", x.reach(1, 1), 0x001);
        DUE.is("two cells off, in one", x.reach(2, 1), 0);
        DUE.is("and in nine", x.reach(2, 9), 0);
        x = Due.onFlat("M630000000000W6La0La3");
        DUE.is("6 alone", x.reach(0, 9), 0x001);
        DUE.is("3 by a board of 3", x.reach(1, 9), 0x003);
    }

    private static void homeByTheWall() {
        DUE.of("HOME: in how few HOURS (0 to 20) a CELL of ROW 0 is in its REACH (of so many HOURS likewise); NONE.");
        for (int cell = 0; cell < 12; cell++) {
            MudBoards x = Due.onFlat(LOW + "L" + Edge.letter(cell) + "0");
            DUE.is("home(0) at " + cell, x.home(0), cell / 4);
        }
        MudBoards x = Due.onFlat(LOW + "W0W9La0Le0Le0");
        x.walk(1, 3);
        x.walk(2, 4);
        DUE.is("by the wall, though it drowns there", x.home(0), 0);
        DUE.is("by the wall, walked in the hour", x.home(1), 0);
        DUE.is("off it, and doomed", x.home(2), NONE);
        x = Due.onFlat(LOW + "Le0Li0");
        x.walk(0, 2);
        x.walk(1, 2);
        DUE.is("in the next hour only, from row 1", x.home(0), 2);
        DUE.is("in the next hour only, from row 2", x.home(1), 3);
    }

    private static void homeInTwenty() {
        // e, j, l and d are never under; i, k and h, between them, are bared for two hours of six
        String flat = "M000990022929W2W2W9W9W9W9";
        MudBoards x = Due.onFlat(flat + "Le0Lf0");
        DUE.is("over each of three cells at one ebb", x.home(0), 14);
        x.walk(1, 1);
        DUE.is("that has walked, and waits for the next ebb", x.home(1), 20);
        x.hour();
        DUE.is("an hour on", x.home(0), 19);
        DUE.is("an hour on", x.home(1), 19);
        Due.hours(x, 4);
        DUE.is("five hours on", x.home(0), 15);
    }

    private static void homeNever() {
        MudBoards x = Due.onFlat("M000090000000W5Le0");
        DUE.is("a cell that it can not leave", x.home(0), NONE);
        x = Due.onFlat("M000090000000W5W0W5Le0");
        DUE.is("one hour of ebb is too few", x.home(0), NONE);
        x = Due.onFlat("M000090000000W5W0W0Le0");
        DUE.is("two are not", x.home(0), 2);
        x = Due.onFlat("M000090000000W5W0W5Le3");
        DUE.is("nor is a board of 3 enough", x.home(0), NONE);
        x = Due.onFlat("M200090000000W5Le3");
        DUE.is("which is for a height of 2", x.home(0), 1);
    }

    private static void homeRefused() {
        DUE.of("`int home(int lark)`: HOME; NONE. UNKNOWN; STATE: it is DROWNED.");
        MudBoards x = Due.onFlat("M000090000000W0W9La0Le0");
        for (int lark : Edge.outside(0, 1)) {
            DUE.is("home(" + lark + ")", x.home(lark), MudBoards.UNKNOWN);
        }
        x.hour();
        DUE.is("drowned, though by the wall", x.home(0), MudBoards.STATE);
        DUE.is("not drowned", x.home(1), NONE);
        DUE.is("without larks", new MudBoards().home(0), MudBoards.UNKNOWN);
    }

    private static void getsRefused() {
        DUE.of("`int gets(int lark, int n, int what)`: GETS: which (what = 0), how much (1); NONE. "
            + "UNKNOWN; OUTSIDE: n, what; STATE: it is DROWNED.");
        MudBoards x = Due.onFlat("M900000000000W0W9Fa30La0Lb0");
        x.hour();
        for (int lark : Edge.outside(0, 1)) {
            DUE.is("gets(" + lark + ", 1, 0)", x.gets(lark, 1, 0), MudBoards.UNKNOWN);
            DUE.is("gets(" + lark + ", 0, 0): of both the first", x.gets(lark, 0, 0), MudBoards.UNKNOWN);
            DUE.is("gets(" + lark + ", 1, 2): of both the first", x.gets(lark, 1, 2), MudBoards.UNKNOWN);
        }
        for (int n : Edge.outside(1, 9)) {
            DUE.is("gets(0, " + n + ", 0)", x.gets(0, n, 0), MudBoards.OUTSIDE);
            DUE.is("gets(0, " + n + ", 1)", x.gets(0, n, 1), MudBoards.OUTSIDE);
            DUE.is("gets(1, " + n + ", 0) of the drowned: of both the first", x.gets(1, n, 0), MudBoards.OUTSIDE);
        }
        for (int what : Edge.outside(0, 1)) {
            DUE.is("gets(0, 1, " + what + ")", x.gets(0, 1, what), MudBoards.OUTSIDE);
            DUE.is("gets(1, 9, " + what + ") of the drowned: of both the first", x.gets(1, 9, what), MudBoards.OUTSIDE);
        }
        for (int n : Edge.inside(1, 9)) {
            DUE.is("gets(0, " + n + ", 0)", x.gets(0, n, 0), 0);
            DUE.is("gets(0, " + n + ", 1)", x.gets(0, n, 1), 3);
            DUE.is("gets(1, " + n + ", 0) of the drowned", x.gets(1, n, 0), MudBoards.STATE);
            DUE.is("gets(1, " + n + ", 1) of the drowned", x.gets(1, n, 1), MudBoards.STATE);
        }
    }

    /** How much a lark can get of one find in n hours, for all n. */
    private static void getsFrom(int least, MudBoards x, String when) {
        for (int n = 1; n <= 9; n++) {
            DUE.is(when + ": gets(0, " + n + ", 0)", x.gets(0, n, 0), n >= least ? 0 : NONE);
            DUE.is(when + ": gets(0, " + n + ", 1)", x.gets(0, n, 1), n >= least ? 7 : NONE);
        }
    }

    private static void getsHereAndNow() {
        DUE.of("of all FINDS that lie, on whose CELL it may be when h HOURS (0 to n) are over, and that is BARED then");
        getsFrom(1, Due.onFlat(LOW + "Fa70La0"), "here, by the wall");
        getsFrom(1, Due.onFlat(LOW + "Fe70Le0"), "here, one from the wall");
        getsFrom(2, Due.onFlat(LOW + "Fi70Li0"), "here, two from the wall");
        MudBoards x = Due.onFlat(LOW + "Fe70Lf0");
        x.walk(0, 1);
        getsFrom(2, x, "here, one from the wall, walked in the hour");
        x = Due.onFlat(LOW + "W0W9Fa70La0");
        getsFrom(1, x, "here, by the wall, though the flood takes it");
        x = Due.onFlat(LOW + "W0W9Fe70Le0");
        getsFrom(10, x, "here, one from the wall, but the flood takes it");
    }

    private static void getsInOne() {
        int[] due = {1, 1, 2, 3, 2, 3, 4, 5, 4, 5, 6, 7};
        for (int cell = 0; cell < 12; cell++) {
            getsFrom(due[cell], Due.onFlat(LOW + "F" + Edge.letter(cell) + "70La0"), "from a to " + Edge.letter(cell));
        }
    }

    private static void getsInNine() {
        DUE.of("and from which it may be in ROW 0 when n HOURS, or fewer, are over in all");
        getsFrom(9, Due.onFlat(DEAD_END + "Fl70Le0"), "four to l, five back");
        getsFrom(10, Due.onFlat(DEAD_END + "Fl70La0"), "five to l, five back");
        getsFrom(8, Due.onFlat(DEAD_END + "Fk70La0"), "four to k, four back");
        MudBoards x = Due.onFlat(DEAD_END + "Fk70Lb0");
        x.walk(0, 1);
        getsFrom(9, x, "walked to a, then four to k, four back");
        getsFrom(8, Due.onFlat(PATH + "Fc70La0"), "eight to c, by the wall");
        x = Due.onFlat(PATH + "Fc70Lb0");
        x.walk(0, 1);
        getsFrom(9, x, "walked to a, then eight to c");
    }

    private static void getsWhatLies() {
        MudBoards x = Due.onFlat(LOW + "Fa90Fa80Fa70La0La0");
        x.dig(1, 0);
        DUE.is("not what another carries", x.gets(0, 1, 0), 1);
        x.dig(0, 1);
        DUE.is("not what it carries", x.gets(0, 1, 0), 2);
        x.sell(0);
        DUE.is("not what is sold", x.gets(0, 1, 0), 2);
        x.dig(0, 2);
        DUE.is("none", x.gets(0, 9, 0), NONE);
        x.walk(1, 4);
        x.put(1);
        DUE.is("what lies elsewhere now", x.gets(0, 2, 0), 0);
        DUE.is("which is two hours off and back", x.gets(0, 1, 0), NONE);
        DUE.is("without finds", Due.onFlat(LOW + "La0").gets(0, 9, 0), NONE);
        DUE.is("without finds", Due.onFlat(LOW + "La0").gets(0, 9, 1), NONE);
    }

    private static void getsWhatIsBared() {
        for (int water = 0; water <= 9; water++) {
            for (int height = 6; height <= 9; height++) {
                MudBoards x = Due.onFlat(Edge.heights(9, 0, height) + "W" + water + "Fa70La3");
                getsFrom(height >= water ? 1 : 10, x, "height " + height + ", water " + water);
            }
        }
        MudBoards x = Due.onFlat("M900000000000W3W3W3W0Fe70La3");
        getsFrom(4, x, "in three hours it is bared, in four it is back");
        x = Due.onFlat("M900000000000W3W3W3W0Fb70La3");
        getsFrom(3, x, "in three hours it is bared, by the wall");
        x = Due.onFlat("M300000000000W0W3W3W3Fb70La0");
        getsFrom(10, x, "bared now alone, but one cell off");
        x = Due.onFlat("M300000000000W0W3W3W3Fb70Lb0");
        getsFrom(1, x, "bared now alone, and here");
    }

    private static void getsAheadOfTheFlood() {
        // e is bared in hours 0 and 1, then the flood takes whoever is not by the wall
        String flat = "M999900000000W0W0W9W9W9W9Fe70";
        getsFrom(2, Due.onFlat(flat + "La0"), "there in 1, back in 2");
        MudBoards x = Due.onFlat(flat + "La0");
        x.hour();
        getsFrom(7, x, "at the next ebb, in hour 6 and 7");
        x = Due.onFlat(flat + "Li0");
        getsFrom(2, x, "on its way home");
        x = Due.onFlat(flat + "Li0");
        x.hour();
        getsFrom(10, x, "too late for it");
        // i is never under, e, on the way home, is under in all hours but one, then but two, of four
        getsFrom(10, Due.onFlat("M999900009999W9W9W0W9Fi70Li0"), "an ebb that is too short for the way home");
        getsFrom(4, Due.onFlat("M999900009999W9W9W0W0Fi70Li0"), "an ebb that is long enough, in hours 2 and 3");
        getsFrom(3, Due.onFlat("M999900009999W9W0W0W9Fi70Li0"), "an ebb that is long enough, in hours 1 and 2");
        x = Due.onFlat("M999900009999W9W9W0W0Fi70Li0");
        Due.hours(x, 2);
        getsFrom(2, x, "the same in hour 2");
        x.hour();
        getsFrom(5, x, "the same in hour 3, too late for the one, in time for the next");
    }

    private static void getsOfEachLark() {
        DUE.of("GETS for a LARK and n HOURS (1 to 9)");
        // b is for boards of 1 and more, e for those of 2 and more; each is bared in every second hour
        MudBoards x = Due.onFlat("M540030000000W5W3Fa10Fb40Fe90La0La1La2Ld3");
        int[][] dueInEven = {{0, 1, 1, NONE}, {0, 1, 2, NONE}, {0, 1, 2, NONE}};
        int[][] dueInOdd = {{0, 0, 0, NONE}, {0, 1, 1, NONE}, {0, 1, 2, NONE}};
        int[] worths = {1, 4, 9};
        for (int hour = 0; hour < 4; hour++) {
            for (int n = 1; n <= 9; n++) {
                for (int lark = 0; lark < 4; lark++) {
                    int due = (hour % 2 == 0 ? dueInEven : dueInOdd)[Math.min(n, 3) - 1][lark];
                    due = lark == 3 && hour >= 2 ? MudBoards.STATE : due;
                    String call = "gets(" + lark + ", " + n + ") in hour " + hour;
                    DUE.is(call + ": which", x.gets(lark, n, 0), due);
                    DUE.is(call + ": how much", x.gets(lark, n, 1), due < 0 ? due : worths[due]);
                }
            }
            x.hour();
        }
    }

    private static void getsByOnesOwnBoard() {
        // e, and i behind it, are for boards of 2 and more; i is bared in every second hour
        for (int with = 0; with < 4; with++) {
            StringBuilder text = new StringBuilder("M500030003000W5W3Fi90");
            for (int lark = 0; lark < 4; lark++) {
                text.append(lark == with ? "La2" : "La1");
            }
            MudBoards x = Due.onFlat(text.toString());
            for (int lark = 0; lark < 4; lark++) {
                DUE.is(text + ": lark " + lark + " in 5", x.gets(lark, 5, 0), lark == with ? 0 : NONE);
                DUE.is(text + ": lark " + lark + " in 4", x.gets(lark, 4, 0), NONE);
            }
            x.hour();
            for (int lark = 0; lark < 4; lark++) {
                DUE.is(text + ": lark " + lark + " in 4, an hour on", x.gets(lark, 4, 0), lark == with ? 0 : NONE);
            }
            text.replace(0, 17, "M500030005000W5W5");
            x = Due.onFlat(text.toString());
            for (int lark = 0; lark < 4; lark++) {
                DUE.is(text + ": lark " + lark + " in 4", x.gets(lark, 4, 0), lark == with ? 0 : NONE);
            }
        }
        for (int walked = 0; walked <= 1; walked++) {
            MudBoards x = Due.onFlat(LOW + "Fe70" + (walked == 0 ? "Lf0Le0" : "Le0Lf0"));
            x.walk(walked, 1);
            DUE.is("one that has walked, beside one that has not", x.gets(walked, 1, 0), NONE);
            DUE.is("one that has not, beside one that has", x.gets(1 - walked, 1, 0), 0);
        }
    }

    private static void getsByWorth() {
        DUE.of("that of most WORTH: CLAY its AGE, BRONZE 0, WET twice its AGE if its CELL is in ROW 0, else 0, CROWN half its AGE (cut)");
        for (int age = 1; age <= 9; age++) {
            for (int cell = 0; cell < 12; cell++) {
                int[] due = {age, 0, cell <= 3 ? 2 * age : 0, age / 2};
                for (int kind = 0; kind <= 3; kind++) {
                    MudBoards x = Due.onFlat(LOW + "F" + Edge.letter(cell) + age + kind + "La0");
                    DUE.is("age " + age + ", kind " + kind + " at " + cell, x.gets(0, 9, 1), due[kind]);
                    DUE.is("which", x.gets(0, 9, 0), 0);
                }
            }
        }
    }

    private static void getsTheLeast() {
        DUE.of("of like ones the least: which; how much; NONE: none.");
        // each of worth 4
        String[] four = {"Fa40", "Fa83", "Fa93", "Fa22", "Ff40"};
        for (int first = 0; first < 5; first++) {
            StringBuilder text = new StringBuilder(LOW + "La0");
            for (int i = 0; i < 5; i++) {
                text.append(four[(first + i) % 5]);
            }
            DUE.is("five like ones", Due.onFlat(text.toString()).gets(0, 9, 0), 0);
            DUE.is("how much", Due.onFlat(text.toString()).gets(0, 9, 1), 4);
            for (int better = 0; better < 5; better++) {
                StringBuilder other = new StringBuilder(text);
                other.replace(16 + 4 * better, 20 + 4 * better, "Fb50");
                DUE.is("four like ones and one of more", Due.onFlat(other.toString()).gets(0, 9, 0), better);
                DUE.is("how much", Due.onFlat(other.toString()).gets(0, 9, 1), 5);
            }
        }
        DUE.is("of no worth, the least", Due.onFlat(LOW + "Fe92Fa91La0").gets(0, 9, 0), 0);
        DUE.is("of no worth, the least", Due.onFlat(LOW + "Fa13Fa91La0").gets(0, 9, 0), 0);
        DUE.is("of no worth: how much", Due.onFlat(LOW + "Fa13Fa91La0").gets(0, 9, 1), 0);
        DUE.is("wet by its own cell", Due.onFlat(LOW + "Fe92Fa42La0").gets(0, 9, 0), 1);
        DUE.is("wet by its own cell: how much", Due.onFlat(LOW + "Fe92Fa42La0").gets(0, 9, 1), 8);
        DUE.is("wet by its own cell", Due.onFlat(LOW + "Fa12Fe92Fa10La0").gets(0, 9, 0), 0);
        DUE.is("of some worth ahead of none", Due.onFlat(LOW + "Fa13Fa91Fa10La0").gets(0, 9, 0), 2);
    }
}
