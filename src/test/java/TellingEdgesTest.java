/** Each sentence on the water, on what is bared and on what is told of cells, finds, larks and in all: promises 6 to 8, 31. */
public final class TellingEdgesTest {
    private static final Due DUE = new Due("TellingEdgesTest");
    private static final String LOW = "M000000000000";

    public static void main(String[] args) {
        waterOfAnHour();
        baredByHeight();
        cellsThatThereAre();
        whatOfACell();
        bitsOfACell();
        findsThatThereAre();
        whatOfAFind();
        larksThatThereAre();
        whatOfALark();
        whatIsCounted();
        countedAtTheMost();
        DUE.end();
    }

    private static void waterOfAnHour() {
        DUE.of("THE WATER of an HOUR is that of the TIDE which is left of it by how many there are (none: 0).");
        int[] waters = {3, 9, 0, 7, 1, 5};
        for (int tides = 0; tides <= 6; tides++) {
            StringBuilder text = new StringBuilder(LOW);
            for (int tide = 0; tide < tides; tide++) {
                text.append('W').append(waters[tide]);
            }
            MudBoards x = Due.onFlat(text.toString());
            for (int hour = 0; hour <= 40; hour++) {
                int due = tides == 0 ? 0 : waters[hour % tides];
                DUE.is("water in hour " + hour + " of " + tides + " tides", x.count(5), due);
                DUE.is("bared(20) in hour " + hour, x.bared(20),
                    tides == 0 || waters[(hour + 20) % tides] == 0 ? 0xfff : 0);
                x.hour();
            }
        }
    }

    private static void baredByHeight() {
        DUE.of("A CELL is BARED in it, if its HEIGHT is as much as THE WATER, or more.");
        for (int water = 0; water <= 9; water++) {
            for (int height = 0; height <= 9; height++) {
                for (int cell : new int[] {0, 5, 11}) {
                    MudBoards x = Due.onFlat(Edge.heights(0, cell, height) + "W" + water);
                    int due = height >= water ? 1 : 0;
                    DUE.is("height " + height + ", water " + water, x.cell(cell, 1), due);
                    DUE.is("bared(0): height " + height + ", water " + water, x.bared(0) >> cell & 1, due);
                }
            }
        }
    }

    private static void cellsThatThereAre() {
        DUE.of("`int cell(int cell, int what)`: .. UNKNOWN; OUTSIDE.");
        MudBoards x = Due.onFlat("M123456789012W5Fa10La0");
        for (int cell : Edge.inside(0, 11)) {
            DUE.is("cell(" + cell + ", 0)", x.cell(cell, 0), (cell + 1) % 10);
        }
        for (int cell : Edge.outside(0, 11)) {
            DUE.is("cell(" + cell + ", 0)", x.cell(cell, 0), MudBoards.UNKNOWN);
            DUE.is("cell(" + cell + ", 3)", x.cell(cell, 3), MudBoards.UNKNOWN);
            DUE.is("cell(" + cell + ", 4): of both the first", x.cell(cell, 4), MudBoards.UNKNOWN);
            DUE.is("cell(" + cell + ", -1): of both the first", x.cell(cell, -1), MudBoards.UNKNOWN);
        }
        for (int what : Edge.outside(0, 3)) {
            DUE.is("cell(0, " + what + ")", x.cell(0, what), MudBoards.OUTSIDE);
            DUE.is("cell(11, " + what + ")", x.cell(11, what), MudBoards.OUTSIDE);
        }
    }

    private static void whatOfACell() {
        DUE.of("Of a CELL its HEIGHT (what = 0), 1 if it is BARED (1), FINDS that lie on it (2: bits), "
            + "LARKS on it (3: bits, DROWNED ones, too).");
        MudBoards x = Due.onFlat("M900000000005W6Fa10Fl20Fa30La0Ll0Ll1La3");
        int[][] due = {{9, 1, 5, 9}, {5, 0, 2, 6}};
        for (int what = 0; what <= 3; what++) {
            DUE.is("cell(0, " + what + ")", x.cell(0, what), due[0][what]);
            DUE.is("cell(11, " + what + ")", x.cell(11, what), due[1][what]);
        }
        x.hour();
        DUE.is("lark 1 is drowned", x.count(9), 2);
        DUE.is("drowned ones, too", x.cell(11, 3), 6);
        x.dig(0, 0);
        DUE.is("what is carried does not lie", x.cell(0, 2), 4);
        x.sell(0);
        DUE.is("what is sold does not lie", x.cell(0, 2), 4);
        x.dig(3, 2);
        DUE.is("nothing lies", x.cell(0, 2), 0);
    }

    private static void bitsOfACell() {
        MudBoards x = Due.onFlat(LOW + "Fg10Fg10Fg10Fg10Fg10Lg0Lg0Lg0Lg0");
        for (int cell = 0; cell < 12; cell++) {
            DUE.is("all finds at g", x.cell(cell, 2), cell == 6 ? 31 : 0);
            DUE.is("all larks at g", x.cell(cell, 3), cell == 6 ? 15 : 0);
        }
        x.walk(3, 1);
        DUE.is("one has gone", x.cell(6, 3), 7);
        DUE.is("one has come", x.cell(5, 3), 8);
    }

    private static void findsThatThereAre() {
        DUE.of("`int find(int find, int what)`: .. UNKNOWN; OUTSIDE.");
        for (int finds = 0; finds <= 5; finds++) {
            MudBoards x = Due.onFlat(LOW + "Fb72".repeat(finds) + "La0");
            for (int find : Edge.inside(0, finds - 1)) {
                DUE.is("find(" + find + ", 1) of " + finds, x.find(find, 1), 7);
            }
            for (int find : Edge.outside(0, finds - 1)) {
                DUE.is("find(" + find + ", 0) of " + finds, x.find(find, 0), MudBoards.UNKNOWN);
                DUE.is("find(" + find + ", 4) of " + finds, x.find(find, 4), MudBoards.UNKNOWN);
                DUE.is("find(" + find + ", 5): of both the first", x.find(find, 5), MudBoards.UNKNOWN);
                DUE.is("find(" + find + ", -1): of both the first", x.find(find, -1), MudBoards.UNKNOWN);
            }
        }
        MudBoards x = Due.onFlat(LOW + "Fb72Fa10La0");
        for (int what : Edge.outside(0, 4)) {
            DUE.is("find(0, " + what + ")", x.find(0, what), MudBoards.OUTSIDE);
            DUE.is("find(1, " + what + ")", x.find(1, what), MudBoards.OUTSIDE);
        }
    }

    private static void find(String when, MudBoards x, int find, int... due) {
        for (int what = 0; what < due.length; what++) {
            DUE.is(when + ": find(" + find + ", " + what + ")", x.find(find, what), due[what]);
        }
    }

    private static void whatOfAFind() {
        DUE.of("Of a FIND its CELL (what = 0; NONE: it does not lie), AGE (1), KIND (2), 0 it lies, 1 carried, 2 SOLD (3), "
            + "the LARK that carries or SOLD it (4; NONE).");
        MudBoards x = Due.onFlat("M990000000000W0W5Fa92Fa13Ff30La0La0Lf0");
        find("told", x, 0, 0, 9, 2, 0, -9);
        find("told", x, 1, 0, 1, 3, 0, -9);
        find("told", x, 2, 5, 3, 0, 0, -9);
        x.dig(0, 1);
        x.dig(1, 0);
        x.dig(2, 2);
        find("carried by 0", x, 1, -9, 1, 3, 1, 0);
        find("carried by 1", x, 0, -9, 9, 2, 1, 1);
        find("carried by 2", x, 2, -9, 3, 0, 1, 2);
        x.sell(0);
        x.walk(1, 2);
        x.hour();
        find("sold by 0", x, 1, -9, 1, 3, 2, 0);
        find("carried on", x, 0, -9, 9, 2, 1, 1);
        find("of one that is drowned", x, 2, 5, 3, 0, 0, -9);
        x.put(1);
        find("put back", x, 0, 1, 9, 2, 0, -9);
    }

    private static void larksThatThereAre() {
        DUE.of("`int lark(int lark, int what)`: .. UNKNOWN; OUTSIDE.");
        for (int larks = 0; larks <= 4; larks++) {
            MudBoards x = Due.onFlat(LOW + "Lb2".repeat(larks) + "Fa10");
            for (int lark : Edge.inside(0, larks - 1)) {
                DUE.is("lark(" + lark + ", 1) of " + larks, x.lark(lark, 1), 2);
            }
            for (int lark : Edge.outside(0, larks - 1)) {
                DUE.is("lark(" + lark + ", 0) of " + larks, x.lark(lark, 0), MudBoards.UNKNOWN);
                DUE.is("lark(" + lark + ", 5) of " + larks, x.lark(lark, 5), MudBoards.UNKNOWN);
                DUE.is("lark(" + lark + ", 6): of both the first", x.lark(lark, 6), MudBoards.UNKNOWN);
                DUE.is("lark(" + lark + ", -1): of both the first", x.lark(lark, -1), MudBoards.UNKNOWN);
            }
        }
        MudBoards x = Due.onFlat(LOW + "Lb2La0");
        for (int what : Edge.outside(0, 5)) {
            DUE.is("lark(0, " + what + ")", x.lark(0, what), MudBoards.OUTSIDE);
            DUE.is("lark(1, " + what + ")", x.lark(1, what), MudBoards.OUTSIDE);
        }
    }

    private static void lark(String when, MudBoards x, int lark, int... due) {
        for (int what = 0; what < due.length; what++) {
            DUE.is(when + ": lark(" + lark + ", " + what + ")", x.lark(lark, what), due[what]);
        }
    }

    private static void whatOfALark() {
        DUE.of("Of a LARK its CELL (what = 0), BOARD (1), COINS (2), what it carries (3: bits), 1 if it is DROWNED (4), "
            + "1 if it has WALKED in THE HOUR (5).");
        MudBoards x = Due.onFlat("M300000000000W0W5Fa70Fl10Fl10Fl10Fl10La3Ll1");
        lark("told", x, 0, 0, 3, 0, 0, 0, 0);
        lark("told", x, 1, 11, 1, 0, 0, 0, 0);
        x.dig(0, 0);
        x.dig(1, 4);
        lark("carries 0", x, 0, 0, 3, 0, 1, 0, 0);
        lark("carries 4", x, 1, 11, 1, 0, 16, 0, 0);
        x.dig(1, 3);
        x.sell(0);
        x.walk(1, 1);
        lark("has sold", x, 0, 0, 3, 7, 0, 0, 0);
        lark("carries 3 and 4, has walked", x, 1, 10, 1, 0, 24, 0, 1);
        x.hour();
        lark("stands by its board", x, 0, 0, 3, 7, 0, 0, 0);
        lark("is drowned", x, 1, 10, 1, 0, 0, 1, 0);
    }

    private static void whatIsCounted() {
        DUE.of("0 letters of THE TEXT, 1 TIDES, 2 FINDS, 3 LARKS, 4 THE HOUR, 5 THE WATER, 6 FINDS that lie (bits), "
            + "7 are carried (bits), 8 SOLD (bits), 9 who is DROWNED (bits), 10 COINS of all, 11 ACTS in the row, 12 SEEN. OUTSIDE.");
        MudBoards x = Due.onFlat("M990000000000W0W7W2Fa50Fb60Ff10Fa21La0Lb0Lf0");
        x.dig(0, 0);
        x.dig(1, 1);
        x.sell(0);
        x.sell(1);
        x.dig(0, 3);
        x.hour();
        x.see(0, 0, 1);
        x.write('W');
        int[] due = {13 + 6 + 16 + 9 + 1, 3, 4, 3, 1, 7, 4, 8, 3, 4, 11, 6, 1};
        for (int what = 0; what <= 12; what++) {
            DUE.is("count(" + what + ")", x.count(what), due[what]);
        }
        for (int what : Edge.outside(0, 12)) {
            DUE.is("count(" + what + ")", x.count(what), MudBoards.OUTSIDE);
        }
    }

    private static void countedAtTheMost() {
        MudBoards x = Due.onFlat(LOW + "W0W1W2W3W4W9Fa90Fa90Fa90Fa90Fa90La0La0La0La0");
        DUE.is("finds that lie", x.count(6), 31);
        for (int find = 0; find < 5; find++) {
            x.dig(find / 2, find);
        }
        DUE.is("are carried", x.count(7), 31);
        DUE.is("none lies", x.count(6), 0);
        for (int lark = 0; lark < 3; lark++) {
            x.sell(lark);
        }
        DUE.is("are sold", x.count(8), 31);
        DUE.is("none is carried", x.count(7), 0);
        DUE.is("coins of all", x.count(10), 45);
        Due.hours(x, 5);
        DUE.is("who is drowned", x.count(9), 15);
        DUE.is("coins of the drowned", x.count(10), 45);
        DUE.is("the water", x.count(5), 9);
        Due.hours(x, 1);
        DUE.is("acts", x.count(11), 14);
        DUE.is("the hour", x.count(4), 6);
    }
}
