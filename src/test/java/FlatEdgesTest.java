/** Each sentence on a new object, THE TEXT, its FAULT and THE FLAT that names an edge: promises 1 to 5. */
public final class FlatEdgesTest {
    private static final Due DUE = new Due("FlatEdgesTest");
    private static final String LOW = "M000000000000";
    private static final String TIDES = "W0W1W2W3W4W9", FINDS = "Fa10Fb21Fl32Fd43Fe90", LARKS = "La0Lb1Ll2Ld3";
    private static final String FULLEST = "M012345678990W0Fa10La0W1Fb21Lb1W2Fl32Ll2W3Fd43Ld3W4Fe90W9";
    private static final String FIGURES = "0123456789", CELLS = "abcdefghijkl";

    public static void main(String[] args) {
        constants();
        newObject();
        lettersThatAreTaken();
        sixtyLetters();
        wiped();
        figuresOfHeights();
        lettersOfParts();
        mostOfEachPart();
        numberedAsTold();
        firstFault();
        notAtItsEnd();
        faultOfNone();
        textOfSixty();
        whatFlatAnswers();
        flatRefused();
        textIsTheFlat();
        madeAnew();
        fewerThanBefore();
        rowAndSlots();
        seenAndSeedStay();
        DUE.end();
    }

    private static void constants() {
        DUE.of("public static final int UNKNOWN = -1, OUTSIDE = -2, STATE = -3, FULL = -4, NONE = -9;");
        DUE.is("UNKNOWN", MudBoards.UNKNOWN, -1);
        DUE.is("OUTSIDE", MudBoards.OUTSIDE, -2);
        DUE.is("STATE", MudBoards.STATE, -3);
        DUE.is("FULL", MudBoards.FULL, -4);
        DUE.is("NONE", MudBoards.NONE, -9);
    }

    private static void newObject() {
        DUE.of("At first all HEIGHTS are 0, there is nothing else.");
        MudBoards x = new MudBoards();
        for (int cell = 0; cell < 12; cell++) {
            int[] due = {0, 1, 0, 0};
            for (int what = 0; what < 4; what++) {
                DUE.is("new cell(" + cell + ", " + what + ")", x.cell(cell, what), due[what]);
            }
        }
        for (int i = 0; i < 5; i++) {
            DUE.is("new find(" + i + ", 0)", x.find(i, 0), MudBoards.UNKNOWN);
            DUE.is("new lark(" + i + ", 0)", x.lark(i, 0), MudBoards.UNKNOWN);
        }
        DUE.of("A flat without anything.");
        for (int what = 0; what <= 12; what++) {
            DUE.is("new count(" + what + ")", x.count(what), 0);
        }
        DUE.is("new fault()", x.fault(), 0);
        DUE.is("new undo()", x.undo(), MudBoards.STATE);
        DUE.is("new again(0)", x.again(0), MudBoards.STATE);
        DUE.is("new again(1)", x.again(1), MudBoards.STATE);
        DUE.is("new unsee()", x.unsee(), 0);
        DUE.is("new seed(1)", x.seed(1), 0);
        DUE.is("new wipe()", x.wipe(), 0);
        DUE.is("new hour()", x.hour(), 0);
    }

    private static void lettersThatAreTaken() {
        DUE.of("A letter (0 to 255) comes behind THE TEXT: how long it is.");
        for (int letter : Edge.inside(0, 255)) {
            MudBoards x = new MudBoards();
            DUE.is("write(" + letter + ")", x.write(letter), 1);
            DUE.is("write(" + letter + ") again", x.write(letter), 2);
        }
        MudBoards x = new MudBoards();
        for (int letter : Edge.outside(0, 255)) {
            DUE.is("write(" + letter + ")", x.write(letter), MudBoards.OUTSIDE);
        }
        DUE.is("none was taken", x.count(0), 0);
        DUE.is("the next is the first", x.write(255), 1);
    }

    private static void sixtyLetters() {
        DUE.of("OUTSIDE; FULL: there are 60.");
        MudBoards x = Due.onText(FULLEST);
        DUE.is("the 58th", x.write(0), 58);
        DUE.is("the 59th", x.write(0), 59);
        DUE.is("the 60th", x.write(255), 60);
        for (int letter : new int[] {0, 77, 255}) {
            DUE.is("the 61st: " + letter, x.write(letter), MudBoards.FULL);
        }
        for (int letter : Edge.outside(0, 255)) {
            DUE.is("write(" + letter + ") when there are 60", x.write(letter), MudBoards.OUTSIDE);
        }
        DUE.is("letters", x.count(0), 60);
        DUE.is("wipe()", x.wipe(), 60);
        DUE.is("the first behind that", x.write(77), 1);
    }

    private static void wiped() {
        DUE.of("THE TEXT is empty: how long it was.");
        for (int length : Edge.inside(0, 60)) {
            MudBoards x = new MudBoards();
            for (int i = 0; i < length; i++) {
                x.write(77);
            }
            DUE.is("wipe() of " + length, x.wipe(), length);
            DUE.is("wipe() of none", x.wipe(), 0);
            DUE.is("letters", x.count(0), 0);
        }
        MudBoards x = Due.onFlat(LOW + "W3Fb10Lc2");
        x.wipe();
        DUE.is("THE FLAT is no TEXT: tides", x.count(1), 1);
        DUE.is("THE FLAT is no TEXT: finds", x.find(0, 0), 1);
        DUE.is("THE FLAT is no TEXT: larks", x.lark(0, 0), 2);
        Due.tell(x, FULLEST);
        DUE.is("nothing of the old text is left", x.fault(), MudBoards.NONE);
    }

    /** All letters behind a start: those that are taken, and whether a flat may end with them. */
    private static void everyLetter(String start, String taken, boolean ends) {
        for (int letter : Edge.inside(0, 255)) {
            MudBoards x = Due.onText(start);
            x.write(letter);
            int place = start.length();
            int dueIfTaken = ends ? MudBoards.NONE : place + 1;
            DUE.is("fault() of " + start + " and " + letter, x.fault(), taken.indexOf(letter) >= 0 ? dueIfTaken : place);
        }
    }

    private static void figuresOfHeights() {
        DUE.of("A FLAT is a TEXT: M, then twelve figures (0 to 9: HEIGHTS of CELLS 0 to 11), then PARTS, none or more");
        everyLetter("", "M", false);
        for (int place = 1; place <= 12; place++) {
            everyLetter(LOW.substring(0, place), FIGURES, place == 12);
        }
        everyLetter(LOW, "WFL", false);
        MudBoards x = Due.onFlat("M908172635445");
        int[] due = {9, 0, 8, 1, 7, 2, 6, 3, 5, 4, 4, 5};
        for (int cell = 0; cell < 12; cell++) {
            DUE.is("height of " + cell, x.cell(cell, 0), due[cell]);
        }
    }

    private static void lettersOfParts() {
        DUE.of("Wt       a TIDE: water up to t (0 to 9)");
        everyLetter(LOW + "W", FIGURES, true);
        for (int t = 0; t <= 9; t++) {
            DUE.is("water of W" + t, Due.onFlat(LOW + "W" + t).count(5), t);
        }
        DUE.of("Fcak     a FIND at CELL c, of AGE a (1 to 9), of KIND k: 0 CLAY, 1 BRONZE, 2 WET, 3 CROWN");
        everyLetter(LOW + "F", CELLS, false);
        everyLetter(LOW + "Fa", "123456789", false);
        everyLetter(LOW + "Fa1", "0123", true);
        DUE.of("Lcb      a LARK at CELL c, whose BOARD is b (0 to 3)");
        everyLetter(LOW + "L", CELLS, false);
        everyLetter(LOW + "La", "0123", true);
        DUE.of("CELLS are 0 to 11, told by letters a to l (a is 0, b 1, .. l 11)");
        for (int cell = 0; cell < 12; cell++) {
            MudBoards x = Due.onFlat(LOW + "F" + CELLS.charAt(cell) + "93L" + CELLS.charAt(cell) + "3");
            DUE.is("cell of a find at " + CELLS.charAt(cell), x.find(0, 0), cell);
            DUE.is("cell of a lark at " + CELLS.charAt(cell), x.lark(0, 0), cell);
            DUE.is("age", x.find(0, 1), 9);
            DUE.is("kind", x.find(0, 2), 3);
            DUE.is("board", x.lark(0, 1), 3);
        }
        MudBoards x = Due.onFlat(LOW + "Fa10La0");
        DUE.is("least age", x.find(0, 1), 1);
        DUE.is("least kind", x.find(0, 2), 0);
        DUE.is("least board", x.lark(0, 1), 0);
    }

    private static void mostOfEachPart() {
        DUE.of("TIDES (6 at most), FINDS (5 at most), LARKS (4 at most)");
        everyLetter(LOW + TIDES.substring(0, 10), "WFL", false);
        everyLetter(LOW + TIDES, "FL", false);
        everyLetter(LOW + FINDS.substring(0, 16), "WFL", false);
        everyLetter(LOW + FINDS, "WL", false);
        everyLetter(LOW + LARKS.substring(0, 9), "WFL", false);
        everyLetter(LOW + LARKS, "WF", false);
        everyLetter(LOW + TIDES + FINDS, "L", false);
        everyLetter(LOW + TIDES + LARKS, "F", false);
        everyLetter(LOW + FINDS + LARKS, "W", false);
        everyLetter(LOW + LARKS + FINDS + TIDES, "", false);
        everyLetter(FULLEST, "", false);
        DUE.is("a seventh tide, whole", Due.onText(LOW + TIDES + "W0").fault(), 25);
        DUE.is("a sixth find, whole", Due.onText(LOW + FINDS + "Fa10").fault(), 33);
        DUE.is("a fifth lark, whole", Due.onText(LOW + LARKS + "La0").fault(), 25);
        DUE.is("tides and finds are no larks", Due.onText(LOW + TIDES + FINDS + LARKS).flat(), 654);
    }

    private static void numberedAsTold() {
        DUE.of("are numbered as they are told, each for itself");
        MudBoards x = Due.onFlat(FULLEST);
        int[] findCells = {0, 1, 11, 3, 4};
        int[] ages = {1, 2, 3, 4, 9};
        int[] kinds = {0, 1, 2, 3, 0};
        for (int find = 0; find < 5; find++) {
            DUE.is("cell of find " + find, x.find(find, 0), findCells[find]);
            DUE.is("age of find " + find, x.find(find, 1), ages[find]);
            DUE.is("kind of find " + find, x.find(find, 2), kinds[find]);
        }
        int[] larkCells = {0, 1, 11, 3};
        for (int lark = 0; lark < 4; lark++) {
            DUE.is("cell of lark " + lark, x.lark(lark, 0), larkCells[lark]);
            DUE.is("board of lark " + lark, x.lark(lark, 1), lark);
        }
        int[] tides = {0, 1, 2, 3, 4, 9};
        for (int tide = 0; tide < 6; tide++) {
            DUE.is("water of tide " + tide, x.count(5), tides[tide]);
            x.hour();
        }
    }

    private static void firstFault() {
        DUE.of("FAULT: the place of the first letter by which THE TEXT can be no FLAT, whatever came behind it");
        for (int place = 0; place < FULLEST.length(); place++) {
            String start = FULLEST.substring(0, place) + "?";
            MudBoards x = Due.onText(start);
            DUE.is("fault() of " + start, x.fault(), place);
            Due.tell(x, FULLEST.substring(place, Math.min(FULLEST.length(), 59)));
            DUE.is("the same with all that came behind it", x.fault(), place);
        }
        DUE.is("of two the first", Due.onText("M0000x0000000y").fault(), 5);
        DUE.is("small m", Due.onText("m000000000000").fault(), 0);
        DUE.is("no M, though the rest is a flat", Due.onText(LOW.substring(1)).fault(), 0);
        DUE.is("a flat behind a flat", Due.onText(LOW + LOW).fault(), 13);
        DUE.is("a thirteenth height", Due.onText(LOW + "0").fault(), 13);
        DUE.is("eleven heights and a part", Due.onText("M00000000000W0").fault(), 12);
    }

    private static void notAtItsEnd() {
        DUE.of("its length, if it is only not at its end");
        for (int length = 0; length <= FULLEST.length(); length++) {
            boolean isWhole = length == FULLEST.length() || length >= 13 && isLetterOfPart(FULLEST.charAt(length));
            DUE.is("fault() of the first " + length, Due.onText(FULLEST.substring(0, length)).fault(),
                isWhole ? MudBoards.NONE : length);
        }
    }

    private static boolean isLetterOfPart(char letter) {
        return letter == 'W' || letter == 'F' || letter == 'L';
    }

    private static void faultOfNone() {
        DUE.of("`int fault()`: FAULT; NONE.");
        DUE.is("of no letters", new MudBoards().fault(), 0);
        DUE.is("of heights alone", Due.onText(LOW).fault(), MudBoards.NONE);
        DUE.is("of the fullest", Due.onText(FULLEST).fault(), MudBoards.NONE);
        MudBoards x = Due.onText(LOW);
        x.wipe();
        DUE.is("of what is wiped", x.fault(), 0);
        x = Due.onFlat(LOW);
        DUE.is("of a text that is the flat", x.fault(), MudBoards.NONE);
        x.write('W');
        DUE.is("of one that goes on", x.fault(), 14);
        DUE.is("asked again", x.fault(), 14);
        x.write('0');
        DUE.is("of one that is whole again", x.fault(), MudBoards.NONE);
    }

    private static void textOfSixty() {
        DUE.of("(its length set aside)");
        MudBoards x = Due.onText(FULLEST + "W0W");
        DUE.is("a tide too many, of a text that is full", x.fault(), 57);
        DUE.is("of 60 letters", x.count(0), 60);
        x = Due.onText("x".repeat(60));
        DUE.is("no flat from the start, of a text that is full", x.fault(), 0);
        x = Due.onText("M".repeat(60));
        DUE.is("no height, of a text that is full", x.fault(), 1);
    }

    private static void whatFlatAnswers() {
        DUE.of("100 times TIDES, 10 times FINDS, and LARKS");
        for (int tides = 0; tides <= 6; tides++) {
            for (int finds = 0; finds <= 5; finds++) {
                for (int larks = 0; larks <= 4; larks++) {
                    String text = LOW + TIDES.substring(0, 2 * tides) + LARKS.substring(0, 3 * larks)
                        + FINDS.substring(0, 4 * finds);
                    MudBoards x = Due.onText(text);
                    DUE.is("flat() of " + text, x.flat(), 100 * tides + 10 * finds + larks);
                    DUE.is("tides of " + text, x.count(1), tides);
                    DUE.is("finds of " + text, x.count(2), finds);
                    DUE.is("larks of " + text, x.count(3), larks);
                }
            }
        }
    }

    private static void flatRefused() {
        DUE.of("STATE: a FAULT.");
        String[] faulty = {"", "M", "x", LOW.substring(0, 12), LOW + "W", LOW + "Fa1", LOW + "L", LOW + "0", LOW + "La4",
            FULLEST + "W", FULLEST + "F", FULLEST + "L", FULLEST + "W0W", "x" + FULLEST};
        for (String text : faulty) {
            DUE.is("flat() of " + text, Due.onText(text).flat(), MudBoards.STATE);
            MudBoards x = Due.onFlat("M111111111111W1Fb10Lc2");
            x.hour();
            x.keep(0);
            x.wipe();
            Due.tell(x, text);
            DUE.is("flat() of " + text + " upon another flat", x.flat(), MudBoards.STATE);
            DUE.is("the text stays", x.count(0), text.length());
            DUE.is("height stays", x.cell(0, 0), 1);
            DUE.is("tides stay", x.count(1), 1);
            DUE.is("finds stay", x.find(0, 0), 1);
            DUE.is("larks stay", x.lark(0, 0), 2);
            DUE.is("the hour stays", x.count(4), 1);
            DUE.is("acts stay", x.count(11), 1);
            DUE.is("what is kept stays", x.again(0), 1);
        }
    }

    private static void textIsTheFlat() {
        DUE.of("THE TEXT is THE FLAT");
        MudBoards x = Due.onText("M987654321098W5Fk71Lj1");
        DUE.is("not yet", x.cell(0, 0), 0);
        DUE.is("no larks yet", x.count(3), 0);
        DUE.is("flat()", x.flat(), 111);
        DUE.is("height of 0", x.cell(0, 0), 9);
        DUE.is("height of 11", x.cell(11, 0), 8);
        DUE.is("letters", x.count(0), 22);
        DUE.is("flat() again", x.flat(), 111);
        Due.tell(x, "W6");
        DUE.is("not by letters alone", x.count(1), 1);
        DUE.is("flat() of one more tide", x.flat(), 211);
        DUE.is("letters", x.count(0), 24);
    }

    /** Two larks and two finds: one find sold, one carried, one lark walked, the other drowned, at hour 1. */
    private static MudBoards wornFlat() {
        MudBoards x = Due.onFlat("M990000000000W0W5Fa50Fb60La0Lf0");
        x.dig(0, 0);
        x.sell(0);
        x.hour();
        x.walk(0, 2);
        x.dig(0, 1);
        return x;
    }

    private static void madeAnew() {
        DUE.of("When THE FLAT is made anew, all FINDS lie where they are told, LARKS are there, carry nothing, "
            + "have no COINS, nobody is DROWNED or has WALKED, THE HOUR is 0.");
        MudBoards x = wornFlat();
        DUE.is("sold by then", x.count(8), 1);
        DUE.is("carried by then", x.count(7), 2);
        DUE.is("drowned by then", x.count(9), 2);
        DUE.is("walked by then", x.lark(0, 5), 1);
        DUE.is("flat()", x.flat(), 222);
        for (int i = 0; i < 2; i++) {
            DUE.is("cell of find " + i, x.find(i, 0), i);
            DUE.is("find " + i + " lies", x.find(i, 3), 0);
            DUE.is("find " + i + " is nobody's", x.find(i, 4), MudBoards.NONE);
            DUE.is("cell of lark " + i, x.lark(i, 0), i == 0 ? 0 : 5);
            for (int what = 2; what <= 5; what++) {
                DUE.is("lark(" + i + ", " + what + ")", x.lark(i, what), 0);
            }
        }
        int[] counts = {31, 2, 2, 2, 0, 0, 3, 0, 0, 0, 0, 0, 0};
        for (int what = 0; what < counts.length; what++) {
            DUE.is("count(" + what + ")", x.count(what), counts[what]);
        }
        DUE.is("a wet find would be dug anew", x.dig(0, 0), 1);
    }

    private static void fewerThanBefore() {
        MudBoards x = Due.onFlat(FULLEST);
        Due.hours(x, 5);
        DUE.is("drowned by then, by water 9", x.count(9), 15);
        x.wipe();
        Due.tell(x, "M555555555555Fc10Lg0");
        DUE.is("flat() of fewer", x.flat(), 11);
        DUE.is("no tides: the water", x.count(5), 0);
        DUE.is("find 1", x.find(1, 0), MudBoards.UNKNOWN);
        DUE.is("lark 1", x.lark(1, 0), MudBoards.UNKNOWN);
        DUE.is("finds that lie", x.count(6), 1);
        DUE.is("drowned", x.count(9), 0);
        for (int cell = 0; cell < 12; cell++) {
            DUE.is("height", x.cell(cell, 0), 5);
            DUE.is("finds at " + cell, x.cell(cell, 2), cell == 2 ? 1 : 0);
            DUE.is("larks at " + cell, x.cell(cell, 3), cell == 6 ? 1 : 0);
        }
        x.wipe();
        Due.tell(x, LOW);
        DUE.is("flat() of none", x.flat(), 0);
        for (int what = 1; what <= 12; what++) {
            DUE.is("count(" + what + ")", x.count(what), 0);
        }
    }

    private static void rowAndSlots() {
        DUE.of("(THE ROW of ACTS is empty, what was kept is gone; SEEN, THE SEED stay)");
        MudBoards x = wornFlat();
        x.keep(0);
        x.keep(1);
        DUE.is("acts by then", x.count(11), 5);
        x.flat();
        DUE.is("acts", x.count(11), 0);
        DUE.is("undo()", x.undo(), MudBoards.STATE);
        DUE.is("again(0)", x.again(0), MudBoards.STATE);
        DUE.is("again(1)", x.again(1), MudBoards.STATE);
        x = Due.onFlat(LOW);
        Due.hours(x, 14);
        x.flat();
        DUE.is("a full row is empty", x.count(11), 0);
        x.hour();
        DUE.is("and goes on from one", x.count(11), 1);
        DUE.is("undo()", x.undo(), 0);
    }

    private static void seenAndSeedStay() {
        MudBoards x = Due.onFlat(LOW + "W0W5");
        for (int i = 0; i < 6; i++) {
            x.see(0, 0, 1);
        }
        x.seed(Long.MIN_VALUE);
        x.flat();
        DUE.is("seen stays full", x.see(0, 0, 1), MudBoards.FULL);
        DUE.is("seen by the same flat", x.phases(), 1);
        x.wipe();
        Due.tell(x, LOW + "W5W0W5W0");
        x.flat();
        DUE.is("seen by another flat", x.phases(), 10);
        DUE.is("how much", x.unsee(), 6);
        DUE.is("the seed", x.seed(0), Long.MIN_VALUE);
    }
}
