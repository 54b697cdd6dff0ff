/** Promises 21 to 31: which hour it was, shares, rests, storms, springs, slots and counts. */
public final class ChancesTest {
    private static final Due DUE = new Due("ChancesTest");

    public static void main(String[] args) {
        see();
        phases();
        share();
        rests();
        restsByTide();
        storms();
        seedAndSprings();
        springsWalk();
        slots();
        counts();
        DUE.end();
    }

    private static void see() {
        MudBoards x = new MudBoards();
        DUE.is("unsee() of nothing", x.unsee(), 0);
        DUE.is("see(12, 0, 0)", x.see(12, 0, 0), MudBoards.UNKNOWN);
        DUE.is("see(-1, 10, 2)", x.see(-1, 10, 2), MudBoards.UNKNOWN);
        DUE.is("see(0, 10, 0)", x.see(0, 10, 0), MudBoards.OUTSIDE);
        DUE.is("see(0, -1, 0)", x.see(0, -1, 0), MudBoards.OUTSIDE);
        DUE.is("see(0, 0, 2)", x.see(0, 0, 2), MudBoards.OUTSIDE);
        DUE.is("see(0, 0, -1)", x.see(0, 0, -1), MudBoards.OUTSIDE);
        for (int i = 1; i <= 6; i++) {
            DUE.is("see no. " + i, x.see(11, 9, 1), i);
        }
        DUE.is("see(0, 0, 2) when full", x.see(0, 0, 2), MudBoards.OUTSIDE);
        DUE.is("see(12, 0, 0) when full", x.see(12, 0, 0), MudBoards.UNKNOWN);
        DUE.is("see(0, 0, 0) when full", x.see(0, 0, 0), MudBoards.FULL);
        DUE.is("phases()", x.phases(), 1);
        DUE.is("unsee()", x.unsee(), 6);
        DUE.is("count(12)", x.count(12), 0);
        DUE.is("see anew", x.see(0, 0, 0), 1);
    }

    private static void phases() {
        MudBoards x = Due.onFlat("M012345678900W0W5W9W5");
        DUE.is("nothing seen", x.phases(), 15);
        x.see(5, 0, 1);
        DUE.is("bared", x.phases(), 11);
        x.see(5, 1, 0);
        DUE.is("then not", x.phases(), 2);
        Due.hours(x, 3);
        DUE.is("whatever the hour is", x.phases(), 2);
        x.see(0, 3, 1);
        DUE.is("three hours behind it", x.phases(), 2);
        x.see(0, 2, 1);
        DUE.is("none", x.phases(), 0);
        x.unsee();
        x.see(4, 9, 1);
        DUE.is("nine hours behind it", x.phases(), 8);
        x.wipe();
        Due.tell(x, "M000000000000W0W1W2W3W4W5");
        x.flat();
        DUE.is("what is seen stays, by the new flat", x.phases(), 8);
    }

    private static void fraction(String what, int above, int below, int wantAbove, int wantBelow) {
        DUE.is(what + " above", above, wantAbove);
        DUE.is(what + " below", below, wantBelow);
    }

    private static void share(MudBoards x, int lark, int above, int below) {
        fraction("share of " + lark, x.share(lark, true), x.share(lark, false), above, below);
    }

    private static void share() {
        // row 2 is cut off by a deep row 1 for boards below 2; find 0 is had by all, 1 by 2 and 3, 2 by 3 alone
        MudBoards x = Due.onFlat("M999977774444W9Fa10Fe91Fi92La0La1La2La3");
        share(x, 0, 1, 4);
        share(x, 1, 1, 4);
        share(x, 2, 1, 4);
        share(x, 3, 1, 4);
        x = Due.onFlat("M999977774444W9W4Fa10Fe91Fi92La0La1La2La3");
        share(x, 0, 1, 4);
        share(x, 1, 1, 4);
        share(x, 2, 3, 4);
        share(x, 3, 3, 4);
        x.dig(3, 0);
        share(x, 0, 0, 1);
        share(x, 2, 1, 2);
        x = Due.onFlat("M000000000000Fa10Fb10Fc10La0Lb0Lc0");
        share(x, 0, 1, 1);
        x = Due.onFlat("M000000000000Fa10Fa20La0");
        share(x, 0, 2, 1);
        x = Due.onFlat("M900000000000W0W9Fa10Fa10La0Ll0La0La0");
        share(x, 1, 0, 1);
        share(x, 0, 2, 3);
        x.hour();
        DUE.is("drowned", x.count(9), 2);
        share(x, 1, 0, 1);
        share(x, 3, 2, 3);
        DUE.is("share(4)", x.share(4, true), MudBoards.UNKNOWN);
        DUE.is("share(4)", x.share(4, false), MudBoards.UNKNOWN);
        DUE.is("share(-1)", x.share(-1, false), MudBoards.UNKNOWN);
        // six hours: down to i takes two, back two; l from a takes five, and two to the wall
        x = Due.onFlat("M000000000000Fi10Fl10La0");
        share(x, 0, 1, 1);
        x = Due.onFlat("M000000000000Fi10Fl10Lb0");
        share(x, 0, 2, 1);
    }

    private static void rests() {
        // one at a, the other at c, all the worth at b: who is there alone has 3 + 9
        MudBoards x = Due.onFlat("M000000000000Fb90La0Lc0");
        // one at b (2), other elsewhere: other has 3 by 0, 2, 3 (stays), 4; or other at b by 1, one has 3 by 0, 1, 3, 4; or both at b
        DUE.is("how many", x.rests(0, 1, 0), 9);
        DUE.is("the first", x.rests(0, 1, 1), 1);
        DUE.is("the other way round", x.rests(1, 0, 1), 2);
        DUE.is("rests(0, 2, 0)", x.rests(0, 2, 0), MudBoards.UNKNOWN);
        DUE.is("rests(2, 2, 9)", x.rests(2, 2, 9), MudBoards.UNKNOWN);
        DUE.is("rests(-1, 0, 0)", x.rests(-1, 0, 0), MudBoards.UNKNOWN);
        DUE.is("rests(0, 0, 0)", x.rests(0, 0, 0), MudBoards.OUTSIDE);
        DUE.is("rests(0, 1, 2)", x.rests(0, 1, 2), MudBoards.OUTSIDE);
        DUE.is("rests(0, 1, -1)", x.rests(0, 1, -1), MudBoards.OUTSIDE);
        x.walk(0, 4);
        // the one stays by all its ways; the other has b to itself
        DUE.is("one has walked: how many", x.rests(0, 1, 0), 5);
        DUE.is("one has walked: the first", x.rests(0, 1, 1), 1);
    }

    private static void restsByTide() {
        // only a and b are dry in the next hour: lark 0 at a, lark 1 at c
        MudBoards x = Due.onFlat("M550000000000W0W5Fa20Fb90La0Lc0");
        // lark 1 lives by 1 (b) alone, with 3, or 12 if lark 0 is not there; lark 0 has 5 at a, by 0, 1, 3
        DUE.is("how many", x.rests(0, 1, 0), 3);
        DUE.is("the first", x.rests(0, 1, 1), 1);
        x.hour();
        DUE.is("drowned", x.rests(0, 1, 0), MudBoards.STATE);
        DUE.is("drowned", x.rests(1, 0, 1), MudBoards.STATE);
        DUE.is("drowned and outside", x.rests(1, 1, 1), MudBoards.OUTSIDE);
        // lark 0 lives by going down alone, lark 1 at the corner by staying, or by ways that there are not
        x = Due.onFlat("M000500000500W0W5Lf0Ld0");
        DUE.is("how many", x.rests(0, 1, 0), 3);
        DUE.is("the first", x.rests(0, 1, 1), 40);
        DUE.is("the first, the other way round", x.rests(1, 0, 1), 4);
        // a board bears it, but what lies there is not bared: all ways are alike but those that drown
        x = Due.onFlat("M000000000000W0W1Fb90La1Lb1");
        DUE.is("not bared", x.rests(0, 1, 0), 25);
        // lark 1 carries find 0 and drowns wherever it goes; lark 0, by its board, lives and gets it only if bared
        x = Due.onFlat("M000000000000W0W1Fa90La1La0");
        x.dig(1, 0);
        DUE.is("dropped where it is not bared", x.rests(0, 1, 0), 25);
    }

    private static void storms(MudBoards x, int n, int tenths, int above, int below) {
        fraction("storms " + n + ", " + tenths, x.storms(0, n, tenths, true), x.storms(0, n, tenths, false), above, below);
    }

    private static void storms() {
        MudBoards x = Due.onFlat("M400000000000W9W5W4W3La1");
        storms(x, 1, 0, 1, 1);
        storms(x, 1, 4, 3, 5);
        storms(x, 1, 10, 0, 1);
        storms(x, 2, 5, 1, 2);
        storms(x, 3, 5, 1, 2);
        storms(x, 4, 0, 0, 1);
        storms(x, 4, 3, 0, 1);
        x = Due.onFlat("M300000000000W4La1Lb0");
        storms(x, 6, 3, 117649, 1000000);
        storms(x, 6, 2, 4096, 15625);
        storms(x, 2, 9, 1, 100);
        storms(x, 6, 10, 0, 1);
        DUE.is("storms(2, ..)", x.storms(2, 1, 0, true), MudBoards.UNKNOWN);
        DUE.is("storms(-1, 0, 11)", x.storms(-1, 0, 11, false), MudBoards.UNKNOWN);
        DUE.is("storms(0, 0, 0)", x.storms(0, 0, 0, true), MudBoards.OUTSIDE);
        DUE.is("storms(0, 7, 0)", x.storms(0, 7, 0, false), MudBoards.OUTSIDE);
        DUE.is("storms(0, 1, 11)", x.storms(0, 1, 11, true), MudBoards.OUTSIDE);
        DUE.is("storms(0, 1, -1)", x.storms(0, 1, -1, false), MudBoards.OUTSIDE);
        x.hour();
        DUE.is("drowned", x.storms(1, 1, 0, true), MudBoards.STATE);
        DUE.is("drowned", x.storms(1, 1, 0, false), MudBoards.STATE);
        DUE.is("drowned and outside", x.storms(1, 7, 0, true), MudBoards.OUTSIDE);
    }

    private static long next(long x) {
        return x * 6364136223846793005L + 1442695040888963407L;
    }

    /** A seed whose first lot is the one that is wanted. */
    private static long seedFor(int lot) {
        for (long seed = 0; seed < 100000; seed++) {
            if ((next(seed) >>> 33) % 28 == lot) {
                return seed;
            }
        }
        return -1;
    }

    private static void seedAndSprings() {
        MudBoards x = Due.onFlat("M000000000000W0W1Fa10Fa20La0Lb1");
        DUE.is("seed(5)", x.seed(5), 0);
        DUE.is("seed(-7)", x.seed(-7), 5);
        DUE.is("springs(0)", x.springs(0), MudBoards.OUTSIDE);
        DUE.is("springs(31)", x.springs(31), MudBoards.OUTSIDE);
        DUE.is("seed stays when refused", x.seed(-7), -7);
        x.springs(1);
        DUE.is("seed after one", x.seed(0), next(-7));
        for (int lot = 0; lot < 28; lot++) {
            x.seed(seedFor(lot));
            int want = lot == 16 ? 3 : lot >= 20 ? 1 : 2;
            DUE.is("springs(1) with lot " + lot, x.springs(1), want);
        }
        long seed = 99;
        for (int i = 0; i < 30; i++) {
            seed = next(seed);
        }
        x.seed(99);
        int sum = x.springs(30);
        DUE.is("seed after thirty", x.seed(99), seed);
        DUE.is("the same seed, the same springs", x.springs(30), sum);
        DUE.is("acts", x.count(11), 0);
    }

    /** A seed whose first lot is the one that is wanted, and whose second is an hour. */
    private static long seedForLotAndHour(int lot) {
        for (long seed = 0; seed < 100000; seed++) {
            long first = next(seed);
            if ((first >>> 33) % 28 == lot && (next(first) >>> 33) % 28 >= 20) {
                return seed;
            }
        }
        return -1;
    }

    private static void springsWalk() {
        // one lark at f is saved by one way alone; the others are safe at h
        int[] refuges = {4, 6, 1, 9};
        for (int lark = 0; lark < 4; lark++) {
            for (int way = 1; way <= 4; way++) {
                StringBuilder text = new StringBuilder("M000000050000W0W5");
                text.setCharAt(1 + refuges[way - 1], '5');
                for (int i = 0; i < 4; i++) {
                    text.append(i == lark ? "Lf0" : "Lh0");
                }
                MudBoards x = Due.onFlat(text.toString());
                for (int lot = 4 * lark; lot < 4 * lark + 4; lot++) {
                    x.seed(seedForLotAndHour(lot));
                    int saved = lot == 4 * lark + way - 1 ? 1 : 0;
                    DUE.is("springs(2) with lot " + lot + ", way " + way, x.springs(2), 4 + 3 + saved);
                }
            }
        }
    }

    private static void slots() {
        MudBoards x = Due.onFlat("M000000000000W0W0W5Fa50Fa42Fb60La0Lb0");
        DUE.is("keep(2)", x.keep(2), MudBoards.UNKNOWN);
        DUE.is("keep(-1)", x.keep(-1), MudBoards.UNKNOWN);
        DUE.is("again(2)", x.again(2), MudBoards.UNKNOWN);
        DUE.is("again(-1)", x.again(-1), MudBoards.UNKNOWN);
        x.dig(0, 0);
        x.sell(0);
        x.hour();
        x.dig(0, 1);
        x.walk(1, 2);
        DUE.is("keep(1)", x.keep(1), 1);
        DUE.is("acts stay when kept", x.count(11), 5);
        DUE.is("again(0)", x.again(0), MudBoards.STATE);
        DUE.is("acts stay when refused", x.count(11), 5);
        x.hour();
        DUE.is("drowned", x.count(9), 3);
        DUE.is("keep(0)", x.keep(0), 2);
        DUE.is("again(1)", x.again(1), 1);
        DUE.is("acts", x.count(11), 0);
        DUE.is("undo()", x.undo(), MudBoards.STATE);
        DUE.is("hour", x.count(4), 1);
        DUE.is("nobody drowned", x.count(9), 0);
        DUE.is("walked", x.lark(1, 5), 1);
        DUE.is("where", x.lark(1, 0), 2);
        DUE.is("carries", x.lark(0, 3), 2);
        DUE.is("sold", x.count(8), 1);
        DUE.is("coins, with the wet one dug in the hour", x.sell(0), 13);
        DUE.is("again(0)", x.again(0), 2);
        DUE.is("drowned again", x.count(9), 3);
        DUE.is("again(1) once more", x.again(1), 1);
        DUE.is("coins as kept", x.count(10), 5);
        x.keep(1);
        x.hour();
        x.undo();
        DUE.is("an act on top of what was kept is undone", x.count(4), 1);
    }

    private static void counts() {
        MudBoards x = Due.onFlat("M900000000000W1W2Fa50Fa60Fb60La0La0Ll0");
        x.dig(0, 0);
        x.dig(1, 1);
        x.sell(0);
        x.hour();
        x.see(0, 0, 0);
        x.see(0, 1, 0);
        int[] want = {38, 2, 3, 3, 1, 2, 4, 2, 1, 4, 5, 4, 2};
        for (int what = 0; what < want.length; what++) {
            DUE.is("count(" + what + ")", x.count(what), want[what]);
        }
        DUE.is("count(13)", x.count(13), MudBoards.OUTSIDE);
        DUE.is("count(-1)", x.count(-1), MudBoards.OUTSIDE);
    }
}
