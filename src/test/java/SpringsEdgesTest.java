import java.math.BigInteger;

/** Each sentence on the seed, springs and slots that names an edge: promises 27 to 30. */
public final class SpringsEdgesTest {
    private static final Due DUE = new Due("SpringsEdgesTest");
    private static final String LOW = "M000000000000";
    private static final BigInteger SIXTY_FOUR_BITS = BigInteger.ONE.shiftLeft(64);
    private static final BigInteger FACTOR = new BigInteger("6364136223846793005");
    private static final BigInteger STEP = new BigInteger("1442695040888963407");
    private static final long[] SEEDS = {0, 1, 2, -1, -2, 77, Integer.MAX_VALUE, Integer.MIN_VALUE, 1L << 32, 1L << 33,
        Long.MAX_VALUE, Long.MIN_VALUE, Long.MAX_VALUE - 1, Long.MIN_VALUE + 1};

    public static void main(String[] args) {
        seeds();
        wrapping();
        howManyTimes();
        upperBits();
        larksThatThereAreNot();
        walkedByLot();
        dugByLot();
        anHourByLot();
        carriedAndNotDrowned();
        fromTheSameEachCall();
        nothingButTheSeed();
        slotsThatThereAre();
        noneKept();
        whatIsKept();
        whatIsNotKept();
        keptOver();
        rowIsEmpty();
        goneByAFlat();
        DUE.end();
    }

    /** The next x, without Java's wrapping. */
    private static long next(long x) {
        return BigInteger.valueOf(x).multiply(FACTOR).add(STEP).mod(SIXTY_FOUR_BITS).longValue();
    }

    /** Its upper 31 bits by 28, what is left. */
    private static int lot(long x) {
        BigInteger unsigned = BigInteger.valueOf(x).mod(SIXTY_FOUR_BITS);
        return unsigned.shiftRight(33).mod(BigInteger.valueOf(28)).intValue();
    }

    /** A seed, of those with or without an upmost bit in its next x, that brings one lot, and then another (-1: any). */
    private static long seedFor(int lot, int then, boolean isNegative) {
        for (long seed = 1; seed < 200000; seed++) {
            long first = next(seed);
            if (lot(first) == lot && first < 0 == isNegative && (then < 0 || lot(next(first)) == then)) {
                return seed;
            }
        }
        throw new IllegalStateException("no seed for " + lot + ", " + then);
    }

    private static void seeds() {
        DUE.of("`long seed(long v)`: THE SEED is v: what it was.");
        MudBoards x = new MudBoards();
        long was = 0;
        for (long seed : SEEDS) {
            DUE.is("seed(" + seed + ")", x.seed(seed), was);
            was = seed;
        }
        DUE.is("the same again", x.seed(was), was);
        DUE.is("the same again", x.seed(0), was);
        DUE.is("another object's", new MudBoards().seed(1), 0);
    }

    private static void wrapping() {
        DUE.of("m times (1 to 30) x (THE SEED, a long; 0 at first) becomes x times 6364136223846793005 and 1442695040888963407 "
            + "(64 bits, wrapping)");
        MudBoards x = new MudBoards();
        x.springs(1);
        DUE.is("of 0, at first", x.seed(0), 1442695040888963407L);
        for (long seed : SEEDS) {
            x.seed(seed);
            long due = seed;
            for (int m = 1; m <= 8; m++) {
                x.springs(1);
                due = next(due);
                DUE.is("the seed behind " + m + " from " + seed, x.seed(due), due);
            }
        }
    }

    private static void howManyTimes() {
        DUE.of("`int springs(int m)`: SPRINGS. OUTSIDE: m.");
        MudBoards x = Due.onFlat(LOW + "La0");
        long due = 99;
        x.seed(99);
        for (int m : Edge.outside(1, 30)) {
            DUE.is("springs(" + m + ")", x.springs(m), MudBoards.OUTSIDE);
        }
        DUE.is("the seed stays", x.seed(99), 99);
        for (int m : Edge.inside(1, 30)) {
            DUE.is("springs(" + m + ") of one lark that none can harm", x.springs(m), m);
            for (int i = 0; i < m; i++) {
                due = next(due);
            }
            DUE.is("the seed behind it", x.seed(due), due);
        }
    }

    private static void upperBits() {
        DUE.of("its upper 31 bits by 28, what is left");
        // two larks, of which an hour drowns one; a find at a, which one lark can dig
        MudBoards x = Due.onFlat("M500000000000W0W5Fa10La0Lb0");
        for (int lot = 0; lot < 28; lot++) {
            int due = lot == 16 ? 3 : lot >= 20 ? 1 : 2;
            x.seed(seedFor(lot, -1, false));
            DUE.is("lot " + lot, x.springs(1), due);
            x.seed(seedFor(lot, -1, true));
            DUE.is("lot " + lot + ", the upmost bit is 1", x.springs(1), due);
        }
    }

    private static void larksThatThereAreNot() {
        DUE.of("each if it can be");
        for (int larks = 0; larks <= 4; larks++) {
            MudBoards none = Due.onFlat(LOW + "La0".repeat(larks));
            MudBoards all = Due.onFlat(LOW + "Fa10".repeat(5) + "La0".repeat(larks));
            for (int lot = 0; lot < 28; lot++) {
                long seed = seedFor(lot, -1, false);
                none.seed(seed);
                DUE.is("lot " + lot + " of " + larks + " larks, no finds", none.springs(1), larks);
                all.seed(seed);
                boolean isDug = lot >= 16 && lot < 16 + larks;
                DUE.is("lot " + lot + " of " + larks + " larks, finds", all.springs(1), larks + (isDug ? 1 : 0));
            }
        }
        MudBoards x = Due.onFlat(LOW + "W0W1Fa10La0");
        x.hour();
        for (int lot = 0; lot < 28; lot++) {
            x.seed(seedFor(lot, -1, false));
            DUE.is("lot " + lot + " of a drowned one", x.springs(1), 0);
        }
    }

    private static void walkedByLot() {
        DUE.of("0 to 15 that by 4 (cut) is a LARK that WALKED the WAY that is left by 4, and 1");
        for (int lot = 0; lot < 16; lot++) {
            int lark = lot / 4;
            int way = lot % 4 + 1;
            long seed = seedFor(lot, 20, false);
            for (int cell = 0; cell < 12; cell++) {
                // the lark at f is saved by an hour if it is on that cell; the others are safe at h
                StringBuilder text = new StringBuilder(Edge.heights(0, cell, 5) + "W0W5");
                text.setCharAt(1 + 7, '5');
                for (int i = 0; i < 4; i++) {
                    text.append(i == lark ? "Lf0" : "Lh0");
                }
                MudBoards x = Due.onFlat(text.toString());
                x.seed(seed);
                int saved = Edge.behind(5, way) == cell ? 1 : 0;
                DUE.is("lot " + lot + ", then an hour, " + text, x.springs(2), 4 + 3 + saved);
            }
        }
        MudBoards x = Due.onFlat("M005000000000W0W5La0");
        x.seed(seedFor(1, 1, false));
        DUE.is("walked twice in the hour: no more than once", x.springs(2), 2);
    }

    private static void dugByLot() {
        DUE.of("16 to 19 that less 16 LARK DUG the least FIND that it can");
        for (int lark = 0; lark < 4; lark++) {
            // the lark at f can dig finds 1 and 3; the hour drowns it, so that what it carries lies again
            StringBuilder text = new StringBuilder(LOW + "W0W0W9Fa10Ff20Fa30Ff40");
            for (int i = 0; i < 4; i++) {
                text.append(i == lark ? "Lf0" : "Ll0");
            }
            for (int other = 0; other < 4; other++) {
                MudBoards x = Due.onFlat(text.toString());
                x.seed(seedFor(16 + other, -1, false));
                DUE.is("lot " + (16 + other) + " of " + text, x.springs(1), other == lark ? 5 : 4);
            }
            MudBoards x = Due.onFlat(text.toString());
            x.seed(seedFor(16 + lark, 16 + lark, false));
            DUE.is("twice: 1 and 3", x.springs(2), 5 + 6);
            x.dig(lark, 1);
            x.seed(seedFor(16 + lark, 16 + lark, false));
            DUE.is("upon one: 3, and no third", x.springs(2), 6 + 6);
            x.dig(lark, 3);
            x.seed(seedFor(16 + lark, 16 + lark, false));
            DUE.is("upon two: none", x.springs(2), 6 + 6);
        }
        leastFind();
        MudBoards x = Due.onFlat(LOW + "W1Fa10La1");
        x.seed(seedFor(16, -1, false));
        DUE.is("not where it is not bared", x.springs(1), 1);
    }

    /** Two larks on one cell: the first to dig leaves the other the second find, and a third to none. */
    private static void leastFind() {
        MudBoards x = Due.onFlat(LOW + "Fa10La0La0");
        x.seed(seedFor(16, 17, false));
        DUE.is("one find for two", x.springs(2), 3 + 3);
        x = Due.onFlat(LOW + "Fa10Fa10La0La0");
        x.seed(seedFor(16, 17, false));
        DUE.is("two finds for two", x.springs(2), 3 + 4);
    }

    private static void anHourByLot() {
        DUE.of("20 to 27 AN HOUR");
        for (int lot = 16; lot < 28; lot++) {
            MudBoards x = Due.onFlat(LOW + "W0W1Lf0Lf0Lf0Lf1");
            x.seed(seedFor(lot, -1, false));
            DUE.is("lot " + lot, x.springs(1), lot >= 20 ? 1 : 4);
        }
        MudBoards x = Due.onFlat(LOW + "W0W0W1Lf0");
        x.seed(seedFor(20, 27, false));
        DUE.is("an hour, and one more", x.springs(2), 1);
        x.hour();
        x.seed(seedFor(20, 27, false));
        DUE.is("from the hour that it is", x.springs(2), 0);
    }

    private static void carriedAndNotDrowned() {
        DUE.of("how many LARKS are not DROWNED, and FINDS that are carried, together, each time, together.");
        MudBoards x = Due.onFlat(LOW + "Fa10Fa10Fa10Fa10Fa10La0La0La0La0");
        for (int find = 0; find < 5; find++) {
            x.dig(find % 4, find);
        }
        DUE.is("four larks, five finds, thirty times", x.springs(30), 270);
        x.sell(0);
        DUE.is("what is sold is not carried: once", x.springs(1), 7);
        DUE.is("thirty times", x.springs(30), 210);
        DUE.is("of nothing", new MudBoards().springs(30), 0);
        x = Due.onFlat(LOW + "W0W1Fa10La0");
        x.dig(0, 0);
        x.seed(seedFor(20, -1, false));
        DUE.is("what a drowned one carried lies", x.springs(1), 0);
    }

    private static void fromTheSameEachCall() {
        MudBoards x = Due.onFlat(LOW + "W0W1La0");
        long hour = seedFor(20, -1, false);
        for (int i = 0; i < 3; i++) {
            x.seed(hour);
            DUE.is("the hour is still to come", x.springs(1), 0);
        }
        DUE.is("nobody is drowned", x.count(9), 0);
    }

    private static void nothingButTheSeed() {
        DUE.of("(Nothing changes but THE SEED.)");
        MudBoards x = Due.onFlat(LOW + "W0W1Fa10Fb20La0Lb0");
        x.seed(3);
        for (int i = 0; i < 20; i++) {
            x.springs(30);
        }
        int[] due = {31, 2, 2, 2, 0, 0, 3, 0, 0, 0, 0, 0, 0};
        for (int what = 0; what <= 12; what++) {
            DUE.is("count(" + what + ")", x.count(what), due[what]);
        }
        for (int lark = 0; lark < 2; lark++) {
            DUE.is("cell of " + lark, x.lark(lark, 0), lark);
            DUE.is("walked of " + lark, x.lark(lark, 5), 0);
        }
    }

    private static void slotsThatThereAre() {
        DUE.of("`int keep(int slot)`: They are kept: THE HOUR. UNKNOWN.");
        MudBoards x = new MudBoards();
        Due.hours(x, 5);
        for (int slot : Edge.outside(0, 1)) {
            DUE.is("keep(" + slot + ")", x.keep(slot), MudBoards.UNKNOWN);
            DUE.is("again(" + slot + ")", x.again(slot), MudBoards.UNKNOWN);
        }
        DUE.is("none was kept", x.again(0), MudBoards.STATE);
        DUE.is("none was kept", x.again(1), MudBoards.STATE);
        DUE.is("keep(0)", x.keep(0), 5);
        x.hour();
        DUE.is("keep(1)", x.keep(1), 6);
        for (int slot : Edge.outside(0, 1)) {
            DUE.is("again(" + slot + ") when others are kept", x.again(slot), MudBoards.UNKNOWN);
        }
        DUE.is("the hour stays", x.count(4), 6);
        DUE.is("acts stay", x.count(11), 6);
    }

    private static void noneKept() {
        DUE.of("`int again(int slot)`: They are as they were kept: THE HOUR. UNKNOWN; STATE: none were kept.");
        for (int slot = 0; slot <= 1; slot++) {
            MudBoards x = new MudBoards();
            x.hour();
            DUE.is("none at first", x.again(slot), MudBoards.STATE);
            x.keep(1 - slot);
            DUE.is("none in this one", x.again(slot), MudBoards.STATE);
            DUE.is("acts stay", x.count(11), 1);
            x.hour();
            DUE.is("but in the other", x.again(1 - slot), 1);
            x.hour();
            x.hour();
            x.keep(slot);
            DUE.is("each for itself", x.again(1 - slot), 1);
            DUE.is("each for itself", x.again(slot), 3);
            DUE.is("again", x.again(slot), 3);
        }
    }

    /** Lark 0 has sold find 0, carries find 1, has walked to b; lark 1 is drowned at f; find 2 lies at b; hour 1. */
    private static MudBoards kept(int slot) {
        MudBoards x = Due.onFlat("M990000000000W0W5Fa50Fb92Fa30La0Lf0");
        x.dig(0, 0);
        x.sell(0);
        x.dig(0, 2);
        x.hour();
        x.walk(0, 2);
        x.put(0);
        x.dig(0, 1);
        x.keep(slot);
        return x;
    }

    private static void whatIsKept() {
        DUE.of("SLOTS 0 to 1 keep where LARKS are, what they carry, COINS, who is DROWNED, has WALKED, where FINDS are, THE HOUR");
        int[] counts = {35, 2, 3, 2, 1, 5, 4, 2, 1, 2, 5, 0, 0};
        for (int slot = 0; slot <= 1; slot++) {
            MudBoards x = kept(slot);
            x.sell(0);
            x.dig(0, 2);
            x.hour();
            x.walk(0, 1);
            x.put(0);
            DUE.is("again(" + slot + ")", x.again(slot), 1);
            for (int what = 0; what < counts.length; what++) {
                DUE.is("count(" + what + ")", x.count(what), counts[what]);
            }
            DUE.is("where lark 0 is", x.lark(0, 0), 1);
            DUE.is("where lark 1 is", x.lark(1, 0), 5);
            DUE.is("what lark 0 carries", x.lark(0, 3), 2);
            DUE.is("coins of lark 0", x.lark(0, 2), 5);
            DUE.is("lark 1 is drowned", x.lark(1, 4), 1);
            DUE.is("lark 0 has walked", x.lark(0, 5), 1);
            DUE.is("so it may not", x.walk(0, 1), MudBoards.STATE);
            DUE.is("who sold find 0", x.find(0, 4), 0);
            DUE.is("who carries find 1", x.find(1, 4), 0);
            DUE.is("where find 2 is", x.find(2, 0), 1);
            DUE.is("find 1, wet, was dug in the hour", x.sell(0), 5 + 18);
        }
    }

    private static void whatIsNotKept() {
        MudBoards x = kept(0);
        x.seed(8);
        x.see(0, 0, 1);
        x.write('W');
        x.again(0);
        DUE.is("not the seed", x.seed(0), 8);
        DUE.is("not what is seen", x.count(12), 1);
        DUE.is("not the text", x.count(0), 36);
        x.again(0);
        DUE.is("not the seed", x.seed(1), 0);
    }

    private static void keptOver() {
        MudBoards x = new MudBoards();
        x.keep(0);
        Due.hours(x, 3);
        DUE.is("kept over", x.keep(0), 3);
        x.hour();
        DUE.is("the last counts", x.again(0), 3);
        DUE.is("what one goes on from is kept still", x.again(0), 3);
        x.hour();
        DUE.is("kept from there", x.keep(1), 4);
        DUE.is("the one", x.again(0), 3);
        DUE.is("the other", x.again(1), 4);
        x = Due.onFlat(LOW + "Fa10La0");
        x.keep(0);
        x.dig(0, 0);
        x.undo();
        x.walk(0, 2);
        x.again(0);
        DUE.is("no act reaches what is kept", x.lark(0, 0), 0);
        x.walk(0, 4);
        x.again(0);
        DUE.is("nor when one has gone on from it", x.lark(0, 0), 0);
    }

    private static void rowIsEmpty() {
        DUE.of("(THE ROW of ACTS is empty when one goes on)");
        MudBoards x = new MudBoards();
        Due.hours(x, 20);
        x.keep(0);
        DUE.is("acts stay when they are kept", x.count(11), 14);
        x.again(0);
        DUE.is("acts", x.count(11), 0);
        DUE.is("undo()", x.undo(), MudBoards.STATE);
        x.hour();
        DUE.is("one act behind it", x.count(11), 1);
        DUE.is("undo()", x.undo(), 0);
        DUE.is("back to what was kept", x.count(4), 20);
        DUE.is("not farther", x.undo(), MudBoards.STATE);
    }

    private static void goneByAFlat() {
        DUE.of("what was kept is gone");
        MudBoards x = Due.onFlat(LOW);
        x.keep(0);
        x.keep(1);
        x.write('W');
        DUE.is("not by one that is refused", x.flat(), MudBoards.STATE);
        DUE.is("again(0)", x.again(0), 0);
        DUE.is("again(1)", x.again(1), 0);
        x.write('4');
        DUE.is("flat()", x.flat(), 100);
        DUE.is("again(0)", x.again(0), MudBoards.STATE);
        DUE.is("again(1)", x.again(1), MudBoards.STATE);
        DUE.is("kept anew", x.keep(0), 0);
        DUE.is("again(0)", x.again(0), 0);
        DUE.is("again(1)", x.again(1), MudBoards.STATE);
    }
}
