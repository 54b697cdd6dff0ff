/** Each sentence on acts that names an edge: promises 9 to 14. */
public final class ActsEdgesTest {
    private static final Due DUE = new Due("ActsEdgesTest");
    private static final String LOW = "M000000000000";

    public static void main(String[] args) {
        waysWithinRows();
        waysThatThereAre();
        larksWhoWalk();
        walkedInTheHour();
        standsOnTheCell();
        standsByItsOwnBoard();
        ownCellDoesNotMatter();
        anHour();
        drownedByHeight();
        drownedForGood();
        whatTheDrownedCarry();
        dugByWhom();
        atMostTwo();
        dugWhere();
        dugIfBared();
        putBack();
        putBackWhere();
        soldInRowZero();
        soldByKind();
        soldWetInTheHour();
        wetDugByAnother();
        coinsMore();
        nothingToSell();
        actsAreARow();
        refusedAreNoActs();
        fourteenActs();
        undoneDownToNone();
        undoneEach();
        DUE.end();
    }

    private static void waysWithinRows() {
        DUE.of("WAYS: 0 stays, 1 left (1 less), 2 right (1 more), both within the ROW, 3 up (4 less), 4 down (4 more).");
        for (int cell = 0; cell < 12; cell++) {
            for (int way = 1; way <= 4; way++) {
                MudBoards x = Due.onFlat(LOW + "L" + Edge.letter(cell) + "0");
                int goal = Edge.behind(cell, way);
                DUE.is("walk from " + cell + " by " + way, x.walk(0, way), goal < 0 ? MudBoards.STATE : goal);
                DUE.is("where it is", x.lark(0, 0), goal < 0 ? cell : goal);
                DUE.is("whether it has walked", x.lark(0, 5), goal < 0 ? 0 : 1);
            }
        }
    }

    private static void waysThatThereAre() {
        DUE.of("OUTSIDE: way (1 to 4)");
        MudBoards x = Due.onFlat("M900000000000W0W5La0Lf0");
        for (int way : Edge.outside(1, 4)) {
            DUE.is("walk(1, " + way + ")", x.walk(1, way), MudBoards.OUTSIDE);
        }
        for (int way : Edge.inside(1, 4)) {
            DUE.is("walk(1, " + way + ")", x.walk(1, way), Edge.behind(5, way));
            x.undo();
        }
        x.walk(0, 2);
        DUE.is("outside ahead of walked already", x.walk(0, 0), MudBoards.OUTSIDE);
        DUE.is("outside ahead of walked already", x.walk(0, 5), MudBoards.OUTSIDE);
        x.undo();
        x.hour();
        DUE.is("outside ahead of drowned", x.walk(1, 0), MudBoards.OUTSIDE);
        DUE.is("outside ahead of drowned", x.walk(1, 5), MudBoards.OUTSIDE);
        DUE.is("a cell that there is not", x.walk(0, 1), MudBoards.STATE);
        DUE.is("a cell that there is not", x.walk(0, 3), MudBoards.STATE);
    }

    private static void larksWhoWalk() {
        DUE.of("`int walk(int lark, int way)`: WALKED: its CELL. UNKNOWN");
        for (int larks = 0; larks <= 4; larks++) {
            MudBoards x = Due.onFlat(LOW + "Lb0".repeat(larks));
            for (int lark : Edge.outside(0, larks - 1)) {
                DUE.is("walk(" + lark + ", 1) of " + larks, x.walk(lark, 1), MudBoards.UNKNOWN);
                DUE.is("walk(" + lark + ", 0): of both the first", x.walk(lark, 0), MudBoards.UNKNOWN);
                DUE.is("walk(" + lark + ", 5): of both the first", x.walk(lark, 5), MudBoards.UNKNOWN);
            }
            for (int lark : Edge.inside(0, larks - 1)) {
                DUE.is("walk(" + lark + ", 1) of " + larks, x.walk(lark, 1), 0);
            }
        }
    }

    private static void walkedInTheHour() {
        DUE.of("WALKED: a LARK that is not DROWNED, and has not WALKED in THE HOUR yet");
        MudBoards x = Due.onFlat("M990000000000W0W5W0Lf0Lf0Le0");
        DUE.is("first in the hour", x.walk(0, 3), 1);
        DUE.is("second in the hour", x.walk(0, 1), MudBoards.STATE);
        DUE.is("back, in the hour", x.walk(0, 4), MudBoards.STATE);
        DUE.is("another's first in the hour", x.walk(2, 3), 0);
        x.hour();
        DUE.is("lark 1 is drowned", x.count(9), 2);
        DUE.is("first in the next hour", x.walk(0, 1), 0);
        DUE.is("a drowned one", x.walk(1, 3), MudBoards.STATE);
        x.undo();
        DUE.is("what is undone was not walked", x.walk(0, 1), 0);
        x.hour();
        for (int way = 1; way <= 4; way++) {
            DUE.is("a drowned one at low water by " + way, x.walk(1, way), MudBoards.STATE);
        }
        DUE.is("a refused one has not walked", x.walk(2, 1), MudBoards.STATE);
        DUE.is("so that it may", x.walk(2, 2), 1);
    }

    private static void standsOnTheCell() {
        DUE.of("A LARK STANDS on a CELL in it, if its HEIGHT and the BOARD together are as much as THE WATER, or more.");
        for (int water = 0; water <= 9; water++) {
            for (int height = 0; height <= 9; height++) {
                for (int board = 0; board <= 3; board++) {
                    String flat = Edge.heights(9, 6, height) + "W" + water + "Lf" + board;
                    boolean stands = height + board >= water;
                    DUE.is(flat + " walk(0, 2)", Due.onFlat(flat).walk(0, 2), stands ? 6 : MudBoards.STATE);
                }
            }
        }
    }

    private static void standsByItsOwnBoard() {
        MudBoards x = Due.onFlat("M540000000000W5La0La1La2La3");
        MudBoards y = Due.onFlat("M520000000000W5La3La2La1La0");
        for (int lark = 0; lark < 4; lark++) {
            DUE.is("board " + lark + " to 4", x.walk(lark, 2), lark >= 1 ? 1 : MudBoards.STATE);
            DUE.is("board " + (3 - lark) + " to 2", y.walk(lark, 2), lark == 0 ? 1 : MudBoards.STATE);
        }
    }

    private static void ownCellDoesNotMatter() {
        DUE.of("goes a WAY 1 to 4 to a CELL that there is, on which it STANDS.");
        MudBoards x = Due.onFlat("M090000000000W9W9La0Ll3");
        DUE.is("from where it does not stand to where it does", x.walk(0, 2), 1);
        DUE.is("to where it does not", x.walk(1, 1), MudBoards.STATE);
        DUE.is("nobody is drowned but by an hour", x.count(9), 0);
        DUE.is("hour()", x.hour(), 1);
        x = Due.onFlat("M900900000000W0W9La0Ld0");
        DUE.is("by the water of the hour, not of the next", x.walk(0, 2), 1);
        DUE.is("which it does not outlive", x.hour(), 1);
        DUE.is("at high water", x.walk(1, 1), MudBoards.STATE);
    }

    private static void anHour() {
        DUE.of("AN HOUR: THE HOUR is one more, nobody has WALKED in it yet");
        MudBoards x = Due.onFlat(LOW + "La0Lb0Lc0Ld0");
        for (int lark = 0; lark < 4; lark++) {
            x.walk(lark, 4);
        }
        x.hour();
        DUE.is("the hour", x.count(4), 1);
        for (int lark = 0; lark < 4; lark++) {
            DUE.is("lark " + lark + " has not walked", x.lark(lark, 5), 0);
            DUE.is("lark " + lark + " walks", x.walk(lark, 3), lark);
        }
        x.hour();
        x.hour();
        DUE.is("the hour", x.count(4), 3);
        DUE.of("`int hour()`: AN HOUR: how many are DROWNED by it.");
        DUE.is("without a lark", new MudBoards().hour(), 0);
        for (int larks = 1; larks <= 4; larks++) {
            x = Due.onFlat(LOW + "W0W1" + "Lg0".repeat(larks));
            DUE.is("all of " + larks, x.hour(), larks);
            DUE.is("none of them again at low water", x.hour(), 0);
            DUE.is("none of them again at high water", x.hour(), 0);
        }
    }

    private static void drownedByHeight() {
        DUE.of("then each LARK that does not STAND on its CELL is DROWNED");
        for (int water = 0; water <= 9; water++) {
            for (int height = 0; height <= 9; height++) {
                for (int board = 0; board <= 3; board++) {
                    String flat = Edge.heights(9, 8, height) + "W9W" + water + "Li" + board;
                    MudBoards x = Due.onFlat(flat);
                    int due = height + board >= water ? 0 : 1;
                    DUE.is("hour() of " + flat, x.hour(), due);
                    DUE.is("drowned of " + flat, x.lark(0, 4), due);
                }
            }
        }
        MudBoards x = Due.onFlat(LOW + "W9W0La0");
        DUE.is("not by the water of the hour that is over", x.hour(), 0);
        DUE.is("but by that of the next", x.hour(), 1);
    }

    private static void drownedForGood() {
        DUE.of("(for good; what it carries lies there)");
        MudBoards x = Due.onFlat(LOW + "W0W1Fk90Fk80Fk70Lk0Lc0");
        x.hour();
        for (int hour = 2; hour <= 12; hour++) {
            DUE.is("hour " + hour, x.hour(), 0);
            DUE.is("who is drowned", x.count(9), 3);
            DUE.is("digs", x.dig(0, 0), MudBoards.STATE);
            DUE.is("walks", x.walk(0, 1), MudBoards.STATE);
        }
        DUE.is("cell", x.lark(0, 0), 10);
    }

    private static void whatTheDrownedCarry() {
        MudBoards x = Due.onFlat("M900000000000W0W0W1Fa90Fk80Fk70La0Lj0");
        x.dig(0, 0);
        x.walk(1, 2);
        x.dig(1, 1);
        x.dig(1, 2);
        x.hour();
        x.walk(1, 1);
        DUE.is("carried", x.count(7), 7);
        DUE.is("hour()", x.hour(), 1);
        DUE.is("both lie where it is", x.cell(9, 2), 6);
        DUE.is("it carries nothing", x.lark(1, 3), 0);
        DUE.is("what another carries is carried on", x.count(7), 1);
        DUE.is("there is nothing to put back", x.put(1), MudBoards.STATE);
        DUE.is("there is nothing to sell", x.sell(1), MudBoards.STATE);
        x = Due.onFlat(LOW + "W0W1Fa50La0");
        x.dig(0, 0);
        x.sell(0);
        x.hour();
        DUE.is("what is sold stays sold", x.count(8), 1);
        DUE.is("coins stay", x.lark(0, 2), 5);
    }

    private static void dugByWhom() {
        DUE.of("`int dig(int lark, int find)`: DUG: how many it carries. UNKNOWN: both");
        MudBoards x = Due.onFlat(LOW + "W0W1Fa10Fa20La0La0");
        for (int lark : Edge.outside(0, 1)) {
            DUE.is("dig(" + lark + ", 0)", x.dig(lark, 0), MudBoards.UNKNOWN);
            DUE.is("dig(" + lark + ", 2)", x.dig(lark, 2), MudBoards.UNKNOWN);
        }
        for (int find : Edge.outside(0, 1)) {
            DUE.is("dig(0, " + find + ")", x.dig(0, find), MudBoards.UNKNOWN);
            DUE.is("dig(1, " + find + ")", x.dig(1, find), MudBoards.UNKNOWN);
        }
        DUE.is("the last of both", x.dig(1, 1), 1);
        DUE.is("the first of both", x.dig(0, 0), 1);
        x.hour();
        DUE.is("a drowned one", x.dig(0, 0), MudBoards.STATE);
        DUE.is("a drowned one, a find that there is not", x.dig(0, 2), MudBoards.UNKNOWN);
        x.hour();
        DUE.is("a drowned one, at low water", x.dig(0, 0), MudBoards.STATE);
        for (int drowned = 0; drowned <= 1; drowned++) {
            x = Due.onFlat(LOW + "W0W1Fb10" + (drowned == 0 ? "Lb0Lb1" : "Lb1Lb0"));
            Due.hours(x, 2);
            DUE.is("a drowned one, beside one that is not", x.dig(drowned, 0), MudBoards.STATE);
            DUE.is("one that is not, beside a drowned one", x.dig(1 - drowned, 0), 1);
        }
        DUE.is("without finds", Due.onFlat(LOW + "La0").dig(0, 0), MudBoards.UNKNOWN);
        DUE.is("without larks", Due.onFlat(LOW + "Fa10").dig(0, 0), MudBoards.UNKNOWN);
    }

    private static void atMostTwo() {
        DUE.of("DUG: a LARK that is not DROWNED and carries one FIND or none gets a FIND");
        MudBoards x = Due.onFlat(LOW + "Fa10Fa20Fa30Fa40Fa50La0La0");
        DUE.is("carries none", x.dig(0, 4), 1);
        DUE.is("carries one", x.dig(0, 3), 2);
        DUE.is("carries two", x.dig(0, 2), MudBoards.STATE);
        DUE.is("which are they", x.lark(0, 3), 24);
        DUE.is("another carries none", x.dig(1, 2), 1);
        x.sell(0);
        DUE.is("carries none, having sold", x.dig(0, 0), 1);
        DUE.is("carries one", x.dig(0, 1), 2);
        DUE.is("put back", x.put(0), 2);
        DUE.is("carries none, having put back", x.dig(0, 1), 1);
        DUE.is("one by the other", x.dig(1, 0), 2);
        x.undo();
        DUE.is("carries one, as that is undone", x.dig(1, 0), 2);
    }

    private static void dugWhere() {
        DUE.of("a FIND that lies at its CELL");
        for (int cell = 0; cell < 12; cell++) {
            MudBoards x = Due.onFlat(LOW + "F" + Edge.letter(cell) + "10Lf0");
            DUE.is("a find at " + cell + ", a lark at 5", x.dig(0, 0), cell == 5 ? 1 : MudBoards.STATE);
        }
        MudBoards x = Due.onFlat(LOW + "Fa10Fa20La0La0");
        x.dig(0, 0);
        DUE.is("its own", x.dig(0, 0), MudBoards.STATE);
        DUE.is("another's", x.dig(1, 0), MudBoards.STATE);
        x.sell(0);
        DUE.is("sold", x.dig(0, 0), MudBoards.STATE);
        DUE.is("sold by another", x.dig(1, 0), MudBoards.STATE);
        x.dig(0, 1);
        x.walk(0, 2);
        x.put(0);
        DUE.is("put back elsewhere", x.dig(1, 1), MudBoards.STATE);
        x.walk(1, 2);
        DUE.is("put back where it is", x.dig(1, 1), 1);
    }

    private static void dugIfBared() {
        DUE.of("if that is BARED: it carries it.");
        for (int water = 0; water <= 9; water++) {
            for (int height = 0; height <= 9; height++) {
                String flat = Edge.heights(0, 7, height) + "W" + water + "Fh10Lh3";
                DUE.is("dig(0, 0) of " + flat, Due.onFlat(flat).dig(0, 0), height >= water ? 1 : MudBoards.STATE);
            }
        }
    }

    private static void putBack() {
        DUE.of("`int put(int lark)`: PUT BACK: how many. UNKNOWN; STATE: it carries nothing.");
        MudBoards x = Due.onFlat(LOW + "Fa10Fa20La0La0");
        for (int lark : Edge.outside(0, 1)) {
            DUE.is("put(" + lark + ")", x.put(lark), MudBoards.UNKNOWN);
        }
        DUE.is("none", x.put(0), MudBoards.STATE);
        x.dig(0, 1);
        DUE.is("another's", x.put(1), MudBoards.STATE);
        DUE.is("one", x.put(0), 1);
        DUE.is("none again", x.put(0), MudBoards.STATE);
        x.dig(0, 1);
        x.dig(0, 0);
        DUE.is("two", x.put(0), 2);
        DUE.is("none again", x.put(0), MudBoards.STATE);
        x.dig(0, 0);
        x.sell(0);
        DUE.is("what is sold is not carried", x.put(0), MudBoards.STATE);
        DUE.is("without larks", new MudBoards().put(0), MudBoards.UNKNOWN);
    }

    private static void putBackWhere() {
        DUE.of("PUT BACK: all that it carries lies at its CELL.");
        MudBoards x = Due.onFlat(LOW + "W0W3Fi10Fi20Fa30Li3La3");
        x.dig(0, 0);
        x.dig(0, 1);
        x.dig(1, 2);
        x.walk(0, 3);
        x.hour();
        DUE.is("where it is not bared", x.cell(4, 1), 0);
        DUE.is("both", x.put(0), 2);
        DUE.is("they lie there", x.cell(4, 2), 3);
        DUE.is("not where they were told", x.cell(8, 2), 0);
        DUE.is("another's is carried on", x.lark(1, 3), 4);
        DUE.is("its cell", x.find(0, 0), 4);
        DUE.is("nobody's", x.find(1, 4), MudBoards.NONE);
    }

    private static void soldInRowZero() {
        DUE.of("SOLD: in ROW 0, all that it carries is SOLD");
        for (int cell = 0; cell < 12; cell++) {
            MudBoards x = Due.onFlat(LOW + "F" + Edge.letter(cell) + "40F" + Edge.letter(cell) + "30L" + Edge.letter(cell) + "0");
            x.dig(0, 0);
            x.dig(0, 1);
            DUE.is("sell(0) at " + cell, x.sell(0), cell <= 3 ? 7 : MudBoards.STATE);
            DUE.is("sold at " + cell, x.count(8), cell <= 3 ? 3 : 0);
            DUE.is("carried at " + cell, x.count(7), cell <= 3 ? 0 : 3);
        }
    }

    private static int sold(int age, int kind, int hoursLater) {
        MudBoards x = Due.onFlat(LOW + "Fa" + age + kind + "La0");
        x.dig(0, 0);
        Due.hours(x, hoursLater);
        int coins = x.sell(0);
        DUE.is("sold in any case", x.find(0, 3), 2);
        DUE.is("coins", x.lark(0, 2), coins);
        return coins;
    }

    private static void soldByKind() {
        DUE.of("CLAY: its AGE; BRONZE: none; WET: twice its AGE, if it was DUG in THE HOUR, else none; CROWN: half its AGE (cut).");
        int[] halves = {0, 0, 1, 1, 2, 2, 3, 3, 4, 4};
        for (int age = 1; age <= 9; age++) {
            for (int later = 0; later <= 2; later++) {
                DUE.is("clay " + age, sold(age, 0, later), age);
                DUE.is("bronze " + age, sold(age, 1, later), 0);
                DUE.is("wet " + age + ", " + later + " hours later", sold(age, 2, later), later == 0 ? 2 * age : 0);
                DUE.is("crown " + age, sold(age, 3, later), halves[age]);
            }
        }
    }

    private static void soldWetInTheHour() {
        DUE.of("WET: twice its AGE, if it was DUG in THE HOUR, else none");
        MudBoards x = Due.onFlat(LOW + "W0W0W0W0W0W0Fa92La0");
        x.dig(0, 0);
        Due.hours(x, 6);
        DUE.is("at the same tide, six hours later", x.sell(0), 0);
        x.undo();
        x.put(0);
        x.dig(0, 0);
        DUE.is("put back, and dug in the hour", x.sell(0), 18);
        x = Due.onFlat(LOW + "Fa92La0");
        Due.hours(x, 3);
        x.dig(0, 0);
        DUE.is("in hour 3", x.sell(0), 18);
        x = Due.onFlat(LOW + "Fa92La0");
        x.dig(0, 0);
        x.hour();
        x.undo();
        DUE.is("the hour undone", x.sell(0), 18);
        x = Due.onFlat(LOW + "Fa92La0");
        x.dig(0, 0);
        x.hour();
        x.put(0);
        x.dig(0, 0);
        x.undo();
        x.undo();
        DUE.is("dug anew, and that undone", x.sell(0), 0);
    }

    private static void wetDugByAnother() {
        MudBoards x = Due.onFlat(LOW + "Fa92La0La0");
        x.dig(0, 0);
        x.hour();
        x.put(0);
        x.dig(1, 0);
        DUE.is("by the one who dug it in the hour", x.sell(1), 18);
        x = Due.onFlat(LOW + "Fa42Fa32La0");
        x.dig(0, 0);
        x.hour();
        x.dig(0, 1);
        DUE.is("each by its own hour", x.sell(0), 6);
    }

    private static void coinsMore() {
        DUE.of("all that it carries is SOLD: it has as many COINS more");
        MudBoards x = Due.onFlat(LOW + "Fa90Fa82Fa73Fa60Fa51La0Lb0");
        x.dig(0, 0);
        x.dig(0, 1);
        DUE.is("9, and 16", x.sell(0), 25);
        x.dig(0, 2);
        x.dig(0, 3);
        DUE.is("3, and 6 more", x.sell(0), 34);
        x.dig(0, 4);
        DUE.is("none more", x.sell(0), 34);
        DUE.is("all are sold", x.count(8), 31);
        DUE.is("the other has none", x.lark(1, 2), 0);
        DUE.is("coins of all", x.count(10), 34);
        x = Due.onFlat(LOW + "Fa10Fa20Fa30Fa40La0La0La0La0");
        int[] all = {1, 3, 6, 10};
        for (int lark = 0; lark < 4; lark++) {
            x.dig(lark, lark);
            DUE.is("by lark " + lark, x.sell(lark), lark + 1);
            DUE.is("coins of lark " + lark, x.lark(lark, 2), lark + 1);
            DUE.is("coins of all", x.count(10), all[lark]);
        }
        x.flat();
        for (int lark = 0; lark < 4; lark++) {
            DUE.is("when the flat is made anew: coins of lark " + lark, x.lark(lark, 2), 0);
        }
    }

    private static void nothingToSell() {
        DUE.of("`int sell(int lark)`: SOLD: COINS. UNKNOWN; STATE: it carries nothing, is not in ROW 0.");
        MudBoards x = Due.onFlat(LOW + "Fa10Fe20La0Le0");
        for (int lark : Edge.outside(0, 1)) {
            DUE.is("sell(" + lark + ")", x.sell(lark), MudBoards.UNKNOWN);
        }
        DUE.is("nothing, in row 0", x.sell(0), MudBoards.STATE);
        DUE.is("nothing, not in row 0", x.sell(1), MudBoards.STATE);
        x.dig(1, 1);
        DUE.is("something, not in row 0", x.sell(1), MudBoards.STATE);
        DUE.is("nothing, though another carries", x.sell(0), MudBoards.STATE);
        x.walk(1, 3);
        DUE.is("something, in row 0", x.sell(1), 2);
        DUE.is("nothing any more", x.sell(1), MudBoards.STATE);
        DUE.is("without larks", new MudBoards().sell(0), MudBoards.UNKNOWN);
    }

    private static void actsAreARow() {
        DUE.of("ACTS (WALKED, HOURS, DUG, PUT BACK, SOLD) are a row");
        MudBoards x = Due.onFlat(LOW + "Fa10La0");
        DUE.is("none", x.count(11), 0);
        x.dig(0, 0);
        DUE.is("dug", x.count(11), 1);
        x.put(0);
        DUE.is("put back", x.count(11), 2);
        x.dig(0, 0);
        x.sell(0);
        DUE.is("dug, sold", x.count(11), 4);
        x.walk(0, 2);
        DUE.is("walked", x.count(11), 5);
        x.hour();
        DUE.is("an hour", x.count(11), 6);
        new MudBoards().hour();
        DUE.is("of another object", x.count(11), 6);
    }

    private static void refusedAreNoActs() {
        MudBoards x = Due.onFlat(LOW + "Fa10La0");
        x.hour();
        x.walk(0, 1);
        x.walk(0, 5);
        x.walk(1, 2);
        x.dig(0, 1);
        x.dig(1, 0);
        x.put(0);
        x.put(1);
        x.sell(0);
        x.sell(1);
        x.keep(0);
        x.judge(1, 0);
        x.springs(9);
        DUE.is("what is refused, or no act", x.count(11), 1);
        DUE.is("undo()", x.undo(), 0);
        DUE.is("the hour is undone", x.count(4), 0);
    }

    private static void fourteenActs() {
        DUE.of("(14 at most; of more the first one is forgotten)");
        for (int acts = 0; acts <= 31; acts++) {
            MudBoards x = new MudBoards();
            Due.hours(x, acts);
            int inRow = Math.min(14, acts);
            DUE.is("acts of " + acts, x.count(11), inRow);
            for (int left = inRow - 1; left >= 0; left--) {
                DUE.is("undo() of " + acts, x.undo(), left);
                DUE.is("the hour", x.count(4), acts - inRow + left);
            }
            DUE.is("one more undo() of " + acts, x.undo(), MudBoards.STATE);
            DUE.is("the hour stays", x.count(4), acts - inRow);
        }
        MudBoards x = Due.onFlat(LOW + "La0");
        x.walk(0, 2);
        Due.hours(x, 13);
        x.undo();
        x.hour();
        DUE.is("as many as go in", x.count(11), 14);
        for (int i = 0; i < 14; i++) {
            x.undo();
        }
        DUE.is("none was forgotten", x.lark(0, 0), 0);
        x.walk(0, 2);
        Due.hours(x, 14);
        for (int i = 0; i < 14; i++) {
            x.undo();
        }
        DUE.is("the walk, of 15 the first, was forgotten", x.lark(0, 0), 1);
        DUE.is("it is still walked in the hour", x.lark(0, 5), 1);
    }

    private static void undoneDownToNone() {
        DUE.of("`int undo()`: The last ACT is undone: how many are left. STATE: there is none.");
        MudBoards x = new MudBoards();
        DUE.is("none at first", x.undo(), MudBoards.STATE);
        x.hour();
        DUE.is("one", x.undo(), 0);
        DUE.is("none again", x.undo(), MudBoards.STATE);
        DUE.is("what is undone is no act", x.count(11), 0);
        x.hour();
        x.hour();
        DUE.is("two", x.undo(), 1);
        x.hour();
        DUE.is("two again", x.undo(), 1);
        DUE.is("one", x.undo(), 0);
        DUE.is("none", x.undo(), MudBoards.STATE);
        DUE.is("the hour", x.count(4), 0);
    }

    private static void undoneEach() {
        DUE.of("the last one can be undone.");
        MudBoards x = Due.onFlat("M900000000000W0W0W5Fa42Fa30La0Lf0");
        x.dig(1, 0);
        x.walk(1, 1);
        x.undo();
        DUE.is("walk: its cell", x.lark(1, 0), 5);
        DUE.is("walk: it may walk", x.lark(1, 5), 0);
        x.dig(0, 0);
        x.undo();
        DUE.is("dig: it lies", x.find(0, 0), 0);
        DUE.is("dig: it is nobody's", x.find(0, 4), MudBoards.NONE);
        x.dig(0, 0);
        x.dig(0, 1);
        x.put(0);
        x.undo();
        DUE.is("put: it carries both", x.lark(0, 3), 3);
        x.sell(0);
        x.undo();
        DUE.is("sell: no coins", x.lark(0, 2), 0);
        DUE.is("sell: it carries both", x.lark(0, 3), 3);
        DUE.is("sell: none is sold", x.count(8), 0);
        DUE.is("sold again, the wet one in its hour", x.sell(0), 11);
        x.walk(1, 2);
        x.hour();
        x.undo();
        DUE.is("hour: the hour", x.count(4), 0);
        DUE.is("hour: it has walked", x.lark(1, 5), 1);
        Due.hours(x, 2);
        DUE.is("drowned", x.count(9), 2);
        x.undo();
        DUE.is("hour: nobody is drowned", x.count(9), 0);
        DUE.is("one that was drowned walks", x.walk(1, 2), 7);
    }
}
