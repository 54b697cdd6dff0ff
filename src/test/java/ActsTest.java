/** Promises 9 to 14: walked, hours, dug, put back, sold, undone. */
public final class ActsTest {
    private static final Due DUE = new Due("ActsTest");

    public static void main(String[] args) {
        walk();
        walkNeedsStanding();
        hour();
        dig();
        put();
        sell();
        sellByTheWall();
        wetFinds();
        wetAndOldLater();
        undo();
        rowOfActs();
        refusedChangesNothing();
        DUE.end();
    }

    private static void walk() {
        // corners a, d, i, l and the middle
        String flat = "M000000000000";
        int[][] ends = {{-3, 1, -3, 4}, {2, -3, -3, 7}, {-3, 9, 4, -3}, {10, -3, 7, -3}};
        String corners = "adil";
        for (int i = 0; i < 4; i++) {
            for (int way = 1; way <= 4; way++) {
                MudBoards x = Due.onFlat(flat + "L" + corners.charAt(i) + "0");
                DUE.is("walk from " + corners.charAt(i) + " by " + way, x.walk(0, way), ends[i][way - 1]);
            }
        }
        MudBoards x = Due.onFlat(flat + "Lf0");
        DUE.is("walk(1, 1)", x.walk(1, 1), MudBoards.UNKNOWN);
        DUE.is("walk(-1, 9)", x.walk(-1, 9), MudBoards.UNKNOWN);
        DUE.is("walk(0, 0)", x.walk(0, 0), MudBoards.OUTSIDE);
        DUE.is("walk(0, 5)", x.walk(0, 5), MudBoards.OUTSIDE);
        DUE.is("walk(0, 1)", x.walk(0, 1), 4);
        DUE.is("walk(0, 2) in the same hour", x.walk(0, 2), MudBoards.STATE);
        DUE.is("walk(0, 0) in the same hour", x.walk(0, 0), MudBoards.OUTSIDE);
        DUE.is("acts", x.count(11), 1);
        x.hour();
        DUE.is("walk(0, 3) in the next hour", x.walk(0, 3), 0);
    }

    private static void walkNeedsStanding() {
        MudBoards x = Due.onFlat("M543200000000W5La0La1La2");
        DUE.is("board 0 to 4", x.walk(0, 2), MudBoards.STATE);
        DUE.is("board 1 to 4", x.walk(1, 2), 1);
        DUE.is("board 2 to 4", x.walk(2, 2), 1);
        x.hour();
        DUE.is("board 1 to 3", x.walk(1, 2), MudBoards.STATE);
        DUE.is("board 2 to 3", x.walk(2, 2), 2);
        // told where it does not stand: drowned only by an hour
        x = Due.onFlat("M000900000000W9La0Lc0");
        DUE.is("off a wet cell", x.walk(1, 2), 3);
        DUE.is("hour()", x.hour(), 1);
        DUE.is("who", x.count(9), 1);
        DUE.is("a drowned one walks", x.walk(0, 2), MudBoards.STATE);
    }

    private static void hour() {
        MudBoards x = Due.onFlat("M012300000000W0W1W2W3Fb60La0Lb0Lc0Ld0");
        x.dig(1, 0);
        DUE.is("hour 1", x.hour(), 1);
        DUE.is("drowned", x.count(9), 1);
        DUE.is("carried", x.count(7), 1);
        DUE.is("hour 2", x.hour(), 1);
        DUE.is("drowned", x.count(9), 3);
        DUE.is("what it carried lies there", x.find(0, 0), 1);
        DUE.is("by nobody", x.find(0, 4), MudBoards.NONE);
        DUE.is("hour 3", x.hour(), 1);
        DUE.is("hour 4", x.hour(), 0);
        DUE.is("the hour", x.count(4), 4);
        DUE.is("the water", x.count(5), 0);
        DUE.is("for good", x.count(9), 7);
        DUE.is("a drowned one digs", x.dig(1, 0), MudBoards.STATE);
        DUE.is("hour 5", x.hour(), 0);
    }

    private static void dig() {
        MudBoards x = Due.onFlat("M100000000000W1W0Fa10Fa20Fa30Fb10Ff40La0Lb1");
        DUE.is("dig(2, 0)", x.dig(2, 0), MudBoards.UNKNOWN);
        DUE.is("dig(0, 5)", x.dig(0, 5), MudBoards.UNKNOWN);
        DUE.is("dig(-1, -1)", x.dig(-1, -1), MudBoards.UNKNOWN);
        DUE.is("elsewhere", x.dig(0, 3), MudBoards.STATE);
        DUE.is("stands, but is not bared", x.dig(1, 3), MudBoards.STATE);
        DUE.is("first", x.dig(0, 2), 1);
        DUE.is("dug already", x.dig(0, 2), MudBoards.STATE);
        DUE.is("second", x.dig(0, 0), 2);
        DUE.is("third", x.dig(0, 1), MudBoards.STATE);
        DUE.is("carried", x.count(7), 5);
        x.hour();
        DUE.is("bared now", x.dig(1, 3), 1);
    }

    private static void put() {
        MudBoards x = Due.onFlat("M000000000000W0W1Fa10Fa20La1La0");
        DUE.is("put(2)", x.put(2), MudBoards.UNKNOWN);
        DUE.is("put(-1)", x.put(-1), MudBoards.UNKNOWN);
        DUE.is("nothing carried", x.put(0), MudBoards.STATE);
        x.dig(0, 0);
        x.dig(0, 1);
        DUE.is("another carries", x.put(1), MudBoards.STATE);
        x.walk(0, 4);
        x.hour();
        DUE.is("where it is not bared", x.put(0), 2);
        DUE.is("lying", x.cell(4, 2), 3);
        DUE.is("carries", x.lark(0, 3), 0);
        DUE.is("put again", x.put(0), MudBoards.STATE);
        DUE.is("a drowned one", x.put(1), MudBoards.STATE);
    }

    private static void sell() {
        // clay 7 and bronze 9 by lark 0; wet 4 and crown 9 by lark 1; clay 3 by lark 0 later
        MudBoards x = Due.onFlat("M000000000000Fa70Fa91Fe42Fe93Fa30La0Le0");
        DUE.is("sell(2)", x.sell(2), MudBoards.UNKNOWN);
        DUE.is("sell(-1)", x.sell(-1), MudBoards.UNKNOWN);
        DUE.is("nothing carried", x.sell(0), MudBoards.STATE);
        x.dig(0, 0);
        x.dig(0, 1);
        x.dig(1, 2);
        x.dig(1, 3);
        DUE.is("not in row 0", x.sell(1), MudBoards.STATE);
        DUE.is("clay and bronze", x.sell(0), 7);
        DUE.is("sold", x.count(8), 3);
        DUE.is("sold by", x.find(1, 4), 0);
        DUE.is("nothing carried any more", x.sell(0), MudBoards.STATE);
        DUE.is("dug when sold", x.dig(0, 0), MudBoards.STATE);
        x.walk(1, 3);
        DUE.is("wet in its hour, and crown", x.sell(1), 12);
        x.dig(0, 4);
        DUE.is("coins in all", x.sell(0), 10);
        DUE.is("coins of lark 0", x.lark(0, 2), 10);
        DUE.is("coins of all", x.count(10), 22);
    }

    private static void sellByTheWall() {
        for (int cell = 0; cell < 12; cell++) {
            char letter = (char) ('a' + cell);
            MudBoards x = Due.onFlat("M000000000000F" + letter + "70L" + letter + "0");
            x.dig(0, 0);
            DUE.is("sell at " + letter, x.sell(0), cell < 4 ? 7 : MudBoards.STATE);
        }
    }

    private static void wetAndOldLater() {
        // five wet finds: those that are dug in an hour before are worth nothing
        for (int find = 0; find < 5; find++) {
            MudBoards x = Due.onFlat("M000000000000Fa52Fa52Fa52Fa52Fa52La0");
            x.dig(0, find);
            x.hour();
            x.dig(0, (find + 1) % 5);
            DUE.is("one of two is fresh", x.sell(0), 10);
        }
    }

    private static void wetFinds() {
        MudBoards x = Due.onFlat("M000000000000Fa42La0");
        x.dig(0, 0);
        x.hour();
        DUE.is("an hour late", x.sell(0), 0);
        DUE.is("sold all the same", x.count(8), 1);
        x.undo();
        x.put(0);
        x.dig(0, 0);
        DUE.is("dug anew", x.sell(0), 8);
        x = Due.onFlat("M000000000000Fa42La0");
        x.dig(0, 0);
        x.hour();
        x.undo();
        DUE.is("the hour undone", x.sell(0), 8);
        x = Due.onFlat("M000000000000Fa13La0");
        x.dig(0, 0);
        DUE.is("half of one, cut", x.sell(0), 0);
    }

    private static void undo() {
        MudBoards x = Due.onFlat("M000000000000W0W0W5Fa50Fa60La0Lb0");
        DUE.is("none", x.undo(), MudBoards.STATE);
        x.dig(0, 0);
        x.sell(0);
        x.dig(0, 1);
        x.walk(0, 2);
        x.put(0);
        x.hour();
        x.hour();
        DUE.is("drowned", x.count(9), 3);
        DUE.is("undo hour", x.undo(), 6);
        DUE.is("nobody is drowned", x.count(9), 0);
        DUE.is("the hour", x.count(4), 1);
        DUE.is("undo hour", x.undo(), 5);
        DUE.is("has walked again", x.lark(0, 5), 1);
        DUE.is("undo put", x.undo(), 4);
        DUE.is("carries", x.lark(0, 3), 2);
        DUE.is("undo walk", x.undo(), 3);
        DUE.is("where", x.lark(0, 0), 0);
        DUE.is("has not walked", x.lark(0, 5), 0);
        DUE.is("undo dig", x.undo(), 2);
        DUE.is("lies", x.find(1, 0), 0);
        DUE.is("undo sell", x.undo(), 1);
        DUE.is("coins", x.count(10), 0);
        DUE.is("carries", x.lark(0, 3), 1);
        DUE.is("undo dig", x.undo(), 0);
        DUE.is("lies", x.count(6), 3);
        DUE.is("none left", x.undo(), MudBoards.STATE);
        x.dig(0, 0);
        x.hour();
        x.hour();
        x.undo();
        DUE.is("carried again by one that was drowned", x.find(0, 4), 0);
    }

    private static void rowOfActs() {
        MudBoards x = Due.onFlat("M000000000000La0");
        x.walk(0, 2);
        Due.hours(x, 13);
        DUE.is("14 acts", x.count(11), 14);
        x.hour();
        DUE.is("14 acts still", x.count(11), 14);
        for (int left = 13; left >= 0; left--) {
            DUE.is("undo()", x.undo(), left);
        }
        DUE.is("the first is forgotten", x.undo(), MudBoards.STATE);
        DUE.is("the hour", x.count(4), 0);
        DUE.is("the walk stays", x.lark(0, 0), 1);
        Due.hours(x, 40);
        for (int i = 0; i < 14; i++) {
            x.undo();
        }
        DUE.is("the hour of 40 less 14", x.count(4), 26);
    }

    private static void refusedChangesNothing() {
        MudBoards x = Due.onFlat("M000000000000W1Fa10La0");
        x.walk(0, 1);
        x.walk(0, 2);
        x.walk(0, 7);
        x.dig(0, 0);
        x.put(0);
        x.sell(0);
        x.dig(5, 5);
        DUE.is("no acts", x.count(11), 0);
        DUE.is("where", x.lark(0, 0), 0);
        DUE.is("lies", x.count(6), 1);
    }
}
