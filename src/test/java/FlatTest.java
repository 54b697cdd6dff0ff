/** Promises 1 to 8: a new object, the text, the flat and what is told of cells, finds, larks. */
public final class FlatTest {
    private static final Due DUE = new Due("FlatTest");
    private static final String HEIGHTS = "M012345678901";

    public static void main(String[] args) {
        newObject();
        writeAndWipe();
        faults();
        flat();
        flatMakesAnew();
        cells();
        finds();
        larks();
        DUE.end();
    }

    private static void newObject() {
        MudBoards x = new MudBoards();
        for (int what = 0; what <= 12; what++) {
            DUE.is("new count(" + what + ")", x.count(what), 0);
        }
        for (int cell = 0; cell < 12; cell++) {
            DUE.is("new cell 0", x.cell(cell, 0), 0);
            DUE.is("new cell 1", x.cell(cell, 1), 1);
            DUE.is("new cell 2", x.cell(cell, 2), 0);
            DUE.is("new cell 3", x.cell(cell, 3), 0);
        }
        DUE.is("new find(0, 0)", x.find(0, 0), MudBoards.UNKNOWN);
        DUE.is("new lark(0, 0)", x.lark(0, 0), MudBoards.UNKNOWN);
        DUE.is("new undo()", x.undo(), MudBoards.STATE);
        DUE.is("new seed(7)", x.seed(7), 0);
        DUE.is("new again(0)", x.again(0), MudBoards.STATE);
        DUE.is("new again(1)", x.again(1), MudBoards.STATE);
    }

    private static void writeAndWipe() {
        MudBoards x = new MudBoards();
        DUE.is("write(-1)", x.write(-1), MudBoards.OUTSIDE);
        DUE.is("write(256)", x.write(256), MudBoards.OUTSIDE);
        DUE.is("write(min)", x.write(Integer.MIN_VALUE), MudBoards.OUTSIDE);
        DUE.is("wipe() of nothing", x.wipe(), 0);
        for (int i = 1; i <= 60; i++) {
            DUE.is("write no. " + i, x.write(i % 2 == 0 ? 0 : 255), i);
        }
        DUE.is("write(256) when full", x.write(256), MudBoards.OUTSIDE);
        DUE.is("write(65) when full", x.write(65), MudBoards.FULL);
        DUE.is("count(0) when full", x.count(0), 60);
        DUE.is("wipe() when full", x.wipe(), 60);
        DUE.is("count(0) when wiped", x.count(0), 0);
        DUE.is("write(77) when wiped", x.write(77), 1);
    }

    private static void fault(String text, int want) {
        MudBoards x = new MudBoards();
        Due.tell(x, text);
        DUE.is("fault() of " + text, x.fault(), want);
        DUE.is("flat() of " + text, x.flat() == MudBoards.STATE ? 1 : 0, want == MudBoards.NONE ? 0 : 1);
        DUE.is("fault() again of " + text, x.fault(), want);
    }

    private static void faults() {
        fault("", 0);
        fault("m", 0);
        fault("M", 1);
        fault("Ma", 1);
        fault("M01234567890", 12);
        fault("M01234567890W", 12);
        fault(HEIGHTS, MudBoards.NONE);
        fault(HEIGHTS + "0", 13);
        fault(HEIGHTS + "w", 13);
        fault(HEIGHTS + "W", 14);
        fault(HEIGHTS + "W0", MudBoards.NONE);
        fault(HEIGHTS + "W9", MudBoards.NONE);
        fault(HEIGHTS + "W:", 14);
        fault(HEIGHTS + "W/", 14);
        fault(HEIGHTS + "F", 14);
        fault(HEIGHTS + "F`", 14);
        fault(HEIGHTS + "FA", 14);
        fault(HEIGHTS + "Fm", 14);
        fault(HEIGHTS + "Fl", 15);
        fault(HEIGHTS + "Fl0", 15);
        fault(HEIGHTS + "Fl9", 16);
        fault(HEIGHTS + "Fl94", 16);
        fault(HEIGHTS + "Fl93", MudBoards.NONE);
        fault(HEIGHTS + "Fa10", MudBoards.NONE);
        fault(HEIGHTS + "L", 14);
        fault(HEIGHTS + "Lm", 14);
        fault(HEIGHTS + "Ll", 15);
        fault(HEIGHTS + "Ll4", 15);
        fault(HEIGHTS + "Ll3", MudBoards.NONE);
        fault(HEIGHTS + "La0 ", 16);
        fault(HEIGHTS + "W0W1W2W3W4W5", MudBoards.NONE);
        fault(HEIGHTS + "W0W1W2W3W4W5W6", 25);
        fault(HEIGHTS + "Fa10Fa10Fa10Fa10Fa10", MudBoards.NONE);
        fault(HEIGHTS + "Fa10Fa10Fa10Fa10Fa10F", 33);
        fault(HEIGHTS + "La0La0La0La0", MudBoards.NONE);
        fault(HEIGHTS + "La0La0La0La0L", 25);
        String fullest = HEIGHTS + "W0Fa10La0W1Fb21Lb1W2Fc32Lc2W3Fd43Ld3W4Fe50W5";
        fault(fullest, MudBoards.NONE);
        fault(fullest + "W", 57);
        fault(fullest + "F", 57);
        fault(fullest + "L", 57);
        // the first fault counts, though the length is over the end of any flat
        fault(fullest + "??M", 57);
    }

    private static void flat() {
        MudBoards x = Due.onFlat(HEIGHTS + "W0Fa10La0W1Fb21Lb1W2Fc32Lc2W3Fd43Ld3W4Fe50W5");
        DUE.is("flat() of the fullest", x.flat(), 654);
        DUE.is("text stays", x.count(0), 57);
        DUE.is("tides", x.count(1), 6);
        DUE.is("finds", x.count(2), 5);
        DUE.is("larks", x.count(3), 4);
        x.wipe();
        DUE.is("flat() of nothing", x.flat(), MudBoards.STATE);
        DUE.is("larks stay when refused", x.count(3), 4);
        Due.tell(x, "M999999999999");
        DUE.is("the flat stays until it is made", x.cell(0, 0), 0);
        DUE.is("flat() of heights", x.flat(), 0);
        DUE.is("height", x.cell(0, 0), 9);
        DUE.is("no larks", x.count(3), 0);
        DUE.is("no lark 0", x.lark(0, 0), MudBoards.UNKNOWN);
    }

    private static void flatMakesAnew() {
        MudBoards x = Due.onFlat("M000000000000W0W5Fa50Fe30La0La0Le0");
        x.dig(0, 0);
        x.sell(0);
        x.dig(2, 1);
        x.walk(1, 2);
        x.keep(0);
        x.keep(1);
        x.seed(44);
        x.see(3, 4, 1);
        x.hour();
        DUE.is("drowned by then", x.count(9), 7);
        DUE.is("flat()", x.flat(), 223);
        DUE.is("hour", x.count(4), 0);
        DUE.is("drowned", x.count(9), 0);
        DUE.is("coins", x.count(10), 0);
        DUE.is("acts", x.count(11), 0);
        DUE.is("lying", x.count(6), 3);
        DUE.is("carried", x.count(7), 0);
        DUE.is("sold", x.count(8), 0);
        DUE.is("undo()", x.undo(), MudBoards.STATE);
        DUE.is("again(0)", x.again(0), MudBoards.STATE);
        DUE.is("again(1)", x.again(1), MudBoards.STATE);
        DUE.is("seen stays", x.count(12), 1);
        DUE.is("seed stays", x.seed(0), 44);
        DUE.is("lark 1 is back", x.lark(1, 0), 0);
        DUE.is("lark 1 has not walked", x.lark(1, 5), 0);
        DUE.is("find 1 is back", x.find(1, 0), 4);
        DUE.is("find 0 has no lark", x.find(0, 4), MudBoards.NONE);
    }

    private static void cells() {
        MudBoards x = Due.onFlat(HEIGHTS + "W5W0Fa10Fl21Fl32La0Ll3La3");
        for (int cell = 0; cell < 12; cell++) {
            DUE.is("height", x.cell(cell, 0), cell % 10);
            DUE.is("bared", x.cell(cell, 1), cell % 10 >= 5 ? 1 : 0);
        }
        DUE.is("finds at 0", x.cell(0, 2), 1);
        DUE.is("finds at 11", x.cell(11, 2), 6);
        DUE.is("finds at 5", x.cell(5, 2), 0);
        DUE.is("larks at 0", x.cell(0, 3), 5);
        DUE.is("larks at 11", x.cell(11, 3), 2);
        DUE.is("cell(-1, 0)", x.cell(-1, 0), MudBoards.UNKNOWN);
        DUE.is("cell(12, 9)", x.cell(12, 9), MudBoards.UNKNOWN);
        DUE.is("cell(0, 4)", x.cell(0, 4), MudBoards.OUTSIDE);
        DUE.is("cell(0, -1)", x.cell(0, -1), MudBoards.OUTSIDE);
        x.hour();
        DUE.is("bared at low water", x.cell(0, 1), 1);
        x.hour();
        DUE.is("drowned larks, too", x.cell(0, 3), 5);
        DUE.is("drowned 0, 1 and 2", x.count(9), 7);
    }

    private static void finds() {
        MudBoards x = Due.onFlat("M000000000000W0Fa10Fb91Fa52Fl73La0Lb0");
        DUE.is("cell", x.find(3, 0), 11);
        DUE.is("age", x.find(1, 1), 9);
        DUE.is("kind", x.find(2, 2), 2);
        DUE.is("kind", x.find(3, 2), 3);
        DUE.is("lies", x.find(0, 3), 0);
        DUE.is("nobody's", x.find(0, 4), MudBoards.NONE);
        x.dig(1, 1);
        DUE.is("carried: no cell", x.find(1, 0), MudBoards.NONE);
        DUE.is("carried", x.find(1, 3), 1);
        DUE.is("by lark 1", x.find(1, 4), 1);
        x.sell(1);
        DUE.is("sold: no cell", x.find(1, 0), MudBoards.NONE);
        DUE.is("sold", x.find(1, 3), 2);
        DUE.is("by lark 1", x.find(1, 4), 1);
        DUE.is("sold age", x.find(1, 1), 9);
        x.dig(0, 2);
        x.walk(0, 2);
        x.put(0);
        DUE.is("put elsewhere", x.find(2, 0), 1);
        DUE.is("lies again", x.find(2, 3), 0);
        DUE.is("nobody's again", x.find(2, 4), MudBoards.NONE);
        DUE.is("find(4, 0)", x.find(4, 0), MudBoards.UNKNOWN);
        DUE.is("find(-1, 9)", x.find(-1, 9), MudBoards.UNKNOWN);
        DUE.is("find(0, 5)", x.find(0, 5), MudBoards.OUTSIDE);
        DUE.is("find(0, -1)", x.find(0, -1), MudBoards.OUTSIDE);
    }

    private static void larks() {
        MudBoards x = Due.onFlat("M000000000000W0W3Fa70Fa52La3Ll2");
        DUE.is("cell", x.lark(1, 0), 11);
        DUE.is("board", x.lark(0, 1), 3);
        DUE.is("coins", x.lark(0, 2), 0);
        DUE.is("carries", x.lark(0, 3), 0);
        x.dig(0, 1);
        DUE.is("carries find 1", x.lark(0, 3), 2);
        x.dig(0, 0);
        DUE.is("carries both", x.lark(0, 3), 3);
        x.sell(0);
        DUE.is("coins", x.lark(0, 2), 17);
        DUE.is("carries nothing", x.lark(0, 3), 0);
        DUE.is("has not walked", x.lark(0, 5), 0);
        x.walk(0, 4);
        DUE.is("has walked", x.lark(0, 5), 1);
        DUE.is("where", x.lark(0, 0), 4);
        x.hour();
        DUE.is("has not walked in the hour", x.lark(0, 5), 0);
        DUE.is("stands by its board", x.lark(0, 4), 0);
        DUE.is("drowned", x.lark(1, 4), 1);
        DUE.is("lark(2, 0)", x.lark(2, 0), MudBoards.UNKNOWN);
        DUE.is("lark(-1, 9)", x.lark(-1, 9), MudBoards.UNKNOWN);
        DUE.is("lark(0, 6)", x.lark(0, 6), MudBoards.OUTSIDE);
        DUE.is("lark(0, -1)", x.lark(0, -1), MudBoards.OUTSIDE);
    }
}
