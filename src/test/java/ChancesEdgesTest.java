/** Each sentence on what is seen, on shares, rests and storms that names an edge: promises 21 to 26. */
public final class ChancesEdgesTest {
    private static final Due DUE = new Due("ChancesEdgesTest");
    private static final String LOW = "M000000000000";
    // one path alone is never under: a, e, i, j, k, l
    private static final String DEAD_END = "M500050005555W5";

    public static void main(String[] args) {
        whatIsSeen();
        sixSeen();
        nothingSeen();
        phasesOfTides();
        phasesByHoursBehind();
        phasesOfAll();
        phasesNotByTheHour();
        shareOfFinds();
        shareOfLarks();
        shareInTwelfths();
        shareInSixHours();
        shareOfTheDrowned();
        shareRefused();
        restsRefused();
        restsOfNoMatter();
        restsOfOnePair();
        restsOfEachPair();
        restsByAge();
        restsAlone();
        restsAsWalked();
        restsIfBared();
        stormsRefused();
        stormsByTenths();
        stormsByHeight();
        stormsOfHoursToCome();
        stormsOfEachLark();
        DUE.end();
    }

    private static void whatIsSeen() {
        DUE.of("SEEN: how many there are. UNKNOWN: cell; OUTSIDE: n, bare (0, 1); FULL: 6.");
        for (int cell : Edge.inside(0, 11)) {
            for (int n : Edge.inside(0, 9)) {
                MudBoards x = new MudBoards();
                DUE.is("see(" + cell + ", " + n + ", 0)", x.see(cell, n, 0), 1);
                DUE.is("see(" + cell + ", " + n + ", 1)", x.see(cell, n, 1), 2);
            }
        }
        MudBoards x = new MudBoards();
        for (int cell : Edge.outside(0, 11)) {
            DUE.is("see(" + cell + ", 0, 0)", x.see(cell, 0, 0), MudBoards.UNKNOWN);
            DUE.is("see(" + cell + ", 10, 0): of both the first", x.see(cell, 10, 0), MudBoards.UNKNOWN);
            DUE.is("see(" + cell + ", 0, 2): of both the first", x.see(cell, 0, 2), MudBoards.UNKNOWN);
        }
        for (int n : Edge.outside(0, 9)) {
            DUE.is("see(0, " + n + ", 0)", x.see(0, n, 0), MudBoards.OUTSIDE);
            DUE.is("see(11, " + n + ", 1)", x.see(11, n, 1), MudBoards.OUTSIDE);
        }
        for (int bare : Edge.outside(0, 1)) {
            DUE.is("see(0, 0, " + bare + ")", x.see(0, 0, bare), MudBoards.OUTSIDE);
            DUE.is("see(11, 9, " + bare + ")", x.see(11, 9, bare), MudBoards.OUTSIDE);
        }
        DUE.is("none was taken", x.count(12), 0);
    }

    private static void sixSeen() {
        DUE.of("6 such at most, none at first.");
        MudBoards x = new MudBoards();
        DUE.is("none at first", x.count(12), 0);
        for (int i = 1; i <= 6; i++) {
            DUE.is("see no. " + i, x.see(i, i, 1), i);
        }
        DUE.is("a seventh", x.see(0, 0, 0), MudBoards.FULL);
        DUE.is("how many", x.count(12), 6);
        DUE.is("a seventh that would not be so was not taken", x.phases(), 1);
        DUE.is("unknown ahead of full", x.see(12, 0, 0), MudBoards.UNKNOWN);
        DUE.is("unknown ahead of full", x.see(-1, 10, 2), MudBoards.UNKNOWN);
        for (int n : Edge.outside(0, 9)) {
            DUE.is("outside ahead of full", x.see(0, n, 0), MudBoards.OUTSIDE);
        }
        for (int bare : Edge.outside(0, 1)) {
            DUE.is("outside ahead of full", x.see(0, 0, bare), MudBoards.OUTSIDE);
        }
        DUE.is("unsee()", x.unsee(), 6);
        DUE.is("the first behind that", x.see(0, 0, 0), 1);
    }

    private static void nothingSeen() {
        DUE.of("Nothing is SEEN: how much there was.");
        for (int seen = 0; seen <= 6; seen++) {
            MudBoards x = new MudBoards();
            for (int i = 0; i < seen; i++) {
                x.see(0, 0, 0);
            }
            DUE.is("phases() of " + seen, x.phases(), seen == 0 ? 1 : 0);
            DUE.is("unsee() of " + seen, x.unsee(), seen);
            DUE.is("unsee() of none", x.unsee(), 0);
            DUE.is("count(12)", x.count(12), 0);
            DUE.is("phases() of none", x.phases(), 1);
        }
    }

    private static void phasesOfTides() {
        DUE.of("PHASES: of HOURS 0, 1, .. (as many as there are TIDES; one, if there are none) those (bits) that it may have been");
        int[] due = {1, 1, 3, 7, 15, 31, 63};
        for (int tides = 0; tides <= 6; tides++) {
            MudBoards x = Due.onFlat(LOW + "W5".repeat(tides));
            DUE.is("nothing seen, " + tides + " tides", x.phases(), due[tides]);
            x.see(0, 3, 1);
            DUE.is("bared, " + tides + " tides", x.phases(), tides == 0 ? 1 : 0);
            x.unsee();
            x.see(0, 3, 0);
            DUE.is("not bared, " + tides + " tides", x.phases(), tides == 0 ? 0 : due[tides]);
        }
    }

    private static void phasesByHoursBehind() {
        DUE.of("SEEN: that n HOURS (0 to 9) behind an HOUR that nobody knows a CELL was BARED (1), or not (0)");
        for (int n : Edge.inside(0, 9)) {
            MudBoards x = Due.onFlat("M000000000000W0W1W1W1W1W1");
            x.see(11, n, 1);
            DUE.is("bared " + n + " hours behind, of six tides", x.phases(), 1 << (60 - n) % 6);
            x.unsee();
            x.see(11, n, 0);
            DUE.is("not bared " + n + " hours behind, of six tides", x.phases(), 63 - (1 << (60 - n) % 6));
            x = Due.onFlat("M000000000000W0W1W1");
            x.see(0, n, 1);
            DUE.is("bared " + n + " hours behind, of three tides", x.phases(), 1 << (60 - n) % 3);
        }
        for (int height = 0; height <= 9; height++) {
            MudBoards x = Due.onFlat(Edge.heights(0, 5, height) + "W3W4W5");
            x.see(5, 0, 1);
            DUE.is("height " + height + " was bared", x.phases(), height >= 5 ? 7 : height == 4 ? 3 : height == 3 ? 1 : 0);
        }
    }

    private static void phasesOfAll() {
        DUE.of("so that all that is SEEN is so.");
        MudBoards x = Due.onFlat("M012345000000W0W1W2W3W4W5");
        int[] due = {62, 30, 28, 12, 8};
        int[][] seen = {{0, 0, 0}, {4, 0, 1}, {1, 0, 0}, {3, 0, 1}, {2, 0, 0}};
        for (int i = 0; i < seen.length; i++) {
            x.see(seen[i][0], seen[i][1], seen[i][2]);
            DUE.is("phases() of " + (i + 1), x.phases(), due[i]);
        }
        DUE.is("the sixth", x.see(4, 9, 0), 6);
        DUE.is("which is not so", x.phases(), 0);
        x = Due.onFlat("M012345000000W0W1W2W3W4W5");
        for (int i = 0; i < 6; i++) {
            x.see(0, 0, i == 5 ? 0 : 1);
        }
        DUE.is("the last of six, which is against the rest", x.phases(), 0);
        x = Due.onFlat("M012345000000W0W1W2W3W4W5");
        for (int i = 0; i < 6; i++) {
            x.see(0, 0, i == 0 ? 0 : 1);
        }
        DUE.is("the first of six, which is against the rest", x.phases(), 0);
    }

    private static void phasesNotByTheHour() {
        MudBoards x = Due.onFlat(LOW + "W0W1W1La0");
        x.see(0, 1, 1);
        for (int hour = 0; hour < 5; hour++) {
            DUE.is("phases() in hour " + hour, x.phases(), 4);
            x.hour();
        }
        DUE.is("what is seen is no act: undone is an hour", x.undo(), 4);
        DUE.is("how much is seen", x.count(12), 1);
    }

    private static void fraction(String what, int above, int below, int... due) {
        DUE.is(what + ", above", above, due[0]);
        DUE.is(what + ", below", below, due[1]);
    }

    private static void share(MudBoards x, int lark, int... due) {
        fraction("share of " + lark, x.share(lark, true), x.share(lark, false), due);
    }

    private static void shareOfFinds() {
        DUE.of("FRACTIONS are told above (upper = true; below 0, if they are), below (1 and more), in least terms");
        for (int finds = 0; finds <= 5; finds++) {
            share(Due.onFlat(LOW + "Fa11".repeat(finds) + "La0"), 0, finds, 1);
        }
        int[][] halves = {{0, 1}, {1, 2}, {1, 1}, {3, 2}, {2, 1}, {5, 2}};
        int[][] thirds = {{0, 1}, {1, 3}, {2, 3}, {1, 1}, {4, 3}, {5, 3}};
        int[][] fourths = {{0, 1}, {1, 4}, {1, 2}, {3, 4}, {1, 1}, {5, 4}};
        for (int finds = 0; finds <= 5; finds++) {
            String text = LOW + "Fa11".repeat(finds) + "La0Lb0";
            share(Due.onFlat(text), 1, halves[finds]);
            share(Due.onFlat(text + "Lc0"), 2, thirds[finds]);
            share(Due.onFlat(text + "Lc0Ld0"), 3, fourths[finds]);
        }
    }

    private static void shareOfLarks() {
        DUE.of("SHARE of a LARK: if LARKS come one by one, in each order as likely: by how many in the mean FINDS "
            + "that one who has come, or more, may get in 6 HOURS (as GETS looks at them, whatever their WORTH) "
            + "are more when it has come than they were: a FRACTION.");
        // a and d are two worlds
        MudBoards x = Due.onFlat("M500500000000W5Fa50Fd91Fd62La0Ld0Ld0");
        share(x, 0, 1, 1);
        share(x, 1, 1, 1);
        share(x, 2, 1, 1);
        x.dig(1, 1);
        share(x, 2, 1, 2);
        x.dig(2, 2);
        share(x, 2, 0, 1);
        x.put(2);
        share(x, 1, 1, 2);
    }

    private static void shareInTwelfths() {
        // b is for boards of 1 and more, e for those of 2 and more; each is bared in every second hour
        MudBoards x = Due.onFlat("M540030000000W5W3Fa10Fb10Fe10La0La1La2La2");
        share(x, 0, 1, 4);
        share(x, 1, 7, 12);
        share(x, 2, 13, 12);
        share(x, 3, 13, 12);
    }

    private static void shareInSixHours() {
        DUE.of("that one who has come, or more, may get in 6 HOURS");
        share(Due.onFlat(DEAD_END + "Fj10La0"), 0, 1, 1);
        share(Due.onFlat(DEAD_END + "Fk10La0"), 0, 0, 1);
        share(Due.onFlat(DEAD_END + "Fk10Le0"), 0, 0, 1);
        share(Due.onFlat(DEAD_END + "Fk10Li0"), 0, 1, 1);
        MudBoards x = Due.onFlat(DEAD_END + "Fj10Lb0La0");
        x.walk(0, 1);
        share(x, 0, 0, 1);
        share(x, 1, 1, 1);
        x.hour();
        share(x, 0, 1, 2);
    }

    private static void shareOfTheDrowned() {
        DUE.of("`int share(int lark, boolean upper)`: SHARE (a DROWNED one: 0).");
        MudBoards x = Due.onFlat("M500000000000W0W5Fa10Fa10La0Lc0Ld0");
        share(x, 0, 2, 1);
        share(x, 1, 0, 1);
        x.hour();
        DUE.is("drowned", x.count(9), 6);
        share(x, 0, 2, 1);
        share(x, 1, 0, 1);
        share(x, 2, 0, 1);
        x = Due.onFlat(LOW + "W0W1Fa10La0");
        share(x, 0, 1, 1);
        x.hour();
        share(x, 0, 0, 1);
        // two at a find, of whom the next hour drowns the one without a board
        for (int drowned = 0; drowned <= 1; drowned++) {
            x = Due.onFlat(LOW + "W0W1Fb10" + (drowned == 0 ? "Lb0Lb1" : "Lb1Lb0"));
            share(x, drowned, 1, 2);
            share(x, 1 - drowned, 1, 2);
            Due.hours(x, 2);
            share(x, drowned, 0, 1);
            share(x, 1 - drowned, 1, 1);
        }
    }

    private static void shareRefused() {
        DUE.of("refusals of them are told likewise.");
        for (int larks = 0; larks <= 4; larks++) {
            MudBoards x = Due.onFlat(LOW + "Fa10" + "La0".repeat(larks));
            for (int lark : Edge.outside(0, larks - 1)) {
                fraction("share(" + lark + ") of " + larks, x.share(lark, true), x.share(lark, false), -1, -1);
            }
            for (int lark : Edge.inside(0, larks - 1)) {
                share(x, lark, 1, larks);
            }
        }
    }

    private static void restsRefused() {
        DUE.of("`int rests(int one, int other, int what)`: RESTS: how many (what = 0), the first (1); NONE. "
            + "UNKNOWN: both; OUTSIDE: both are one, what; STATE: one is DROWNED.");
        MudBoards x = Due.onFlat("M990000000000W0W5La0Lb0Ll0");
        x.hour();
        for (int lark : Edge.outside(0, 2)) {
            DUE.is("rests(" + lark + ", 0, 0)", x.rests(lark, 0, 0), MudBoards.UNKNOWN);
            DUE.is("rests(0, " + lark + ", 0)", x.rests(0, lark, 0), MudBoards.UNKNOWN);
            DUE.is("rests(" + lark + ", itself, 0)", x.rests(lark, lark, 0), MudBoards.UNKNOWN);
            DUE.is("rests(" + lark + ", 0, 2)", x.rests(lark, 0, 2), MudBoards.UNKNOWN);
            DUE.is("rests(2, " + lark + ", -1) of the drowned", x.rests(2, lark, -1), MudBoards.UNKNOWN);
        }
        for (int what : Edge.outside(0, 1)) {
            DUE.is("rests(0, 1, " + what + ")", x.rests(0, 1, what), MudBoards.OUTSIDE);
            DUE.is("rests(0, 2, " + what + ") of the drowned", x.rests(0, 2, what), MudBoards.OUTSIDE);
            DUE.is("rests(1, 1, " + what + ")", x.rests(1, 1, what), MudBoards.OUTSIDE);
        }
        for (int what : Edge.inside(0, 1)) {
            for (int lark = 0; lark <= 2; lark++) {
                DUE.is("rests(" + lark + ", itself, " + what + ")", x.rests(lark, lark, what), MudBoards.OUTSIDE);
            }
            DUE.is("the one is drowned", x.rests(2, 0, what), MudBoards.STATE);
            DUE.is("the other is drowned", x.rests(1, 2, what), MudBoards.STATE);
        }
        DUE.is("neither is drowned", x.rests(0, 1, 1), 0);
    }

    private static void rests(String when, MudBoards x, int howMany, int first) {
        DUE.is(when + ": how many", x.rests(0, 1, 0), howMany);
        DUE.is(when + ": the first", x.rests(0, 1, 1), first);
    }

    private static void restsOfNoMatter() {
        DUE.of("pairs of WAYS in which neither has more by another one alone: how many");
        rests("nothing to be had", Due.onFlat(LOW + "La0Ll0"), 25, 0);
        rests("on one cell", Due.onFlat(LOW + "Lf0Lf0"), 25, 0);
        rests("both are doomed", Due.onFlat(LOW + "W0W9Fa90Fb90La0Lb0"), 25, 0);
        // the one is doomed; the other lives by staying alone, and by ways that there are not
        rests("one is doomed", Due.onFlat("M000000000009W0W9La0Ll0"), 5 * 3, 0);
        rests("one is doomed, the other has to go up", Due.onFlat("M000000090000W0W9La0Ll0"), 5, 3);
    }

    private static void restsOfOnePair() {
        DUE.of("the first (10 times the one and the other); NONE.");
        for (int ways = 0; ways < 16; ways++) {
            for (int cells = 0; cells < 144; cells++) {
                onePair(1 + ways / 4, 1 + ways % 4, cells / 12, cells % 12);
            }
        }
        rests("both down", Due.onFlat("M000090900000W0W9La0Lc0"), 1, 44);
        rests("one down, the other stays, or can not go", Due.onFlat("M000990000000W0W9La0Ld0"), 3, 40);
        rests("one stays, or can not go, the other down", Due.onFlat("M900000090000W0W9La0Ld0"), 3, 4);
    }

    /** Each of two larks is saved by one way alone, to a refuge of its own. */
    private static void onePair(int oneWay, int otherWay, int one, int other) {
        int oneRefuge = Edge.behind(one, oneWay);
        int otherRefuge = Edge.behind(other, otherWay);
        if (oneRefuge < 0 || otherRefuge < 0 || oneRefuge == otherRefuge
                || isWithinOne(one, otherRefuge) || isWithinOne(other, oneRefuge)) {
            return;
        }
        StringBuilder text = new StringBuilder(LOW);
        text.setCharAt(1 + oneRefuge, '9');
        text.setCharAt(1 + otherRefuge, '9');
        text.append("W0W9L").append(Edge.letter(one)).append("0L").append(Edge.letter(other)).append('0');
        rests(text.toString(), Due.onFlat(text.toString()), 1, 10 * oneWay + otherWay);
    }

    private static void restsOfEachPair() {
        // f alone is dry: left of lark 0, right of 1, above 2, below 3
        MudBoards x = Due.onFlat("M000009000000W0W9Lg0Le0Lj0Lb0");
        for (int one = 0; one < 4; one++) {
            for (int other = 0; other < 4; other++) {
                boolean isPair = one != other;
                DUE.is("rests(" + one + ", " + other + ", 0)", x.rests(one, other, 0), isPair ? 1 : MudBoards.OUTSIDE);
                DUE.is("rests(" + one + ", " + other + ", 1)", x.rests(one, other, 1),
                    isPair ? 10 * (one + 1) + other + 1 : MudBoards.OUTSIDE);
            }
        }
    }

    private static boolean isWithinOne(int from, int to) {
        boolean isNear = from == to;
        for (int way = 1; way <= 4; way++) {
            isNear |= Edge.behind(from, way) == to;
        }
        return isNear;
    }

    private static void restsByAge() {
        DUE.of("the greatest AGE of FINDS that lie on its CELL");
        // lark 1 can do nothing; lark 0, at a, has 9 of b by one way, of two finds
        String apart = "M550000000005W5";
        rests("9 of b by 2 alone", Due.onFlat(apart + "Fa80Fb11Fb91La0Ll0"), 5, 20);
        rests("9 of a by staying", Due.onFlat(apart + "Fa11Fa91Fb80La0Ll0"), 4 * 5, 0);
        rests("9 of f by staying, when the one can go each way", Due.onFlat(LOW + "Ff90Lf0Ll0"), 5, 0);
        rests("9 of g by staying, when the other can go each way", Due.onFlat(LOW + "Fg90La0Lg0"), 5, 0);
        rests("like ages", Due.onFlat(apart + "Fa90Fb91La0Ll0"), 25, 0);
        MudBoards x = Due.onFlat(apart + "Fa80Fb91La0Ll0Lb0");
        x.dig(2, 1);
        rests("what is carried does not lie", x, 4 * 5, 0);
        x.sell(2);
        rests("what is sold does not lie", x, 4 * 5, 0);
        x.undo();
        x.put(2);
        rests("put back", x, 5, 20);
    }

    private static void restsAlone() {
        DUE.of("each has 3, if it is not DROWNED then, and, if so, and the other one is on another CELL, or DROWNED");
        // a and b alone are dry; 9 at b: who is there alone has 12, both there 3 each
        rests("one goes there, or the other", Due.onFlat("M550000000000W5Fb90La0La0"), 4 + 4 + 1, 2);
        rests("both there", Due.onFlat("M550000000000W5Fb90Lb0Lb0"), 4 * 4 + 4 + 4, 0);
        // 9 at b, 6 at a: one of them each
        rests("one of them each", Due.onFlat("M550000000000W5Fb90Fa60La0La0"), 4 + 4, 2);
        MudBoards x = Due.onFlat("M550000000005W5Fb90Ll0La0La0");
        DUE.is("a third one does not matter", x.rests(1, 2, 0), 4 + 4 + 1);
        DUE.is("a third one does not matter", x.rests(2, 1, 1), 2);
        DUE.is("nor who is told first", x.rests(2, 1, 0), 4 + 4 + 1);
        x = Due.onFlat("M550000000000W5Fb90Lb0La0La0");
        DUE.is("a third one on the cell does not matter", x.rests(1, 2, 0), 4 + 4 + 1);
        // life is 3: to be alive with another is more than to be drowned
        rests("one cell alone is dry", Due.onFlat("M050000000000W0W5Fb90La0Lc0"), 1, 21);
    }

    private static void restsAsWalked() {
        DUE.of("each goes a WAY (1 to 4, if it can, as WALKED, else it stays), or stays (0), the one first, then AN HOUR");
        MudBoards x = Due.onFlat("M999900000000W0W5Fb90Fd50Lf0Lc0");
        rests("nobody has walked", x, 1, 32);
        x.walk(0, 3);
        rests("the one has walked to b, the other may to d", x, 5, 2);
        x.walk(1, 2);
        rests("both have walked", x, 25, 0);
        x.hour();
        x.walk(0, 1);
        rests("the one has walked off, the other may not reach b in one", x, 5 * 4, 0);
    }

    private static void restsIfBared() {
        DUE.of("if that is BARED (0: none)");
        String apart = "M540000000005W5";
        rests("bared by 5", Due.onFlat("M550000000005W5Fb90La1Ll0"), 5, 20);
        rests("not by 4, though the board bears it", Due.onFlat(apart + "Fb90La1Ll0"), 25, 0);
        rests("nor does 4 bear it without a board", Due.onFlat(apart + "Fb90La0Ll0"), 25, 0);
        rests("by the water of the next hour", Due.onFlat("M540000000005W5W4Fb90La1Ll0"), 5, 20);
        rests("not of this", Due.onFlat("M540000000005W4W5Fb90La1Ll0"), 25, 0);
    }

    private static void storms(MudBoards x, int n, int tenths, int... due) {
        fraction("storms(0, " + n + ", " + tenths + ")", x.storms(0, n, tenths, true), x.storms(0, n, tenths, false), due);
    }

    private static void stormsRefused() {
        DUE.of("`int storms(int lark, int n, int x, boolean upper)`: STORMS. UNKNOWN; OUTSIDE: n, x; STATE: it is DROWNED.");
        MudBoards x = Due.onFlat("M900000000000W0W5La0Lb0");
        x.hour();
        for (boolean upper : new boolean[] {true, false}) {
            for (int lark : Edge.outside(0, 1)) {
                DUE.is("storms(" + lark + ", 1, 0)", x.storms(lark, 1, 0, upper), MudBoards.UNKNOWN);
                DUE.is("storms(" + lark + ", 0, 0)", x.storms(lark, 0, 0, upper), MudBoards.UNKNOWN);
                DUE.is("storms(" + lark + ", 1, 11)", x.storms(lark, 1, 11, upper), MudBoards.UNKNOWN);
            }
            for (int n : Edge.outside(1, 6)) {
                DUE.is("storms(0, " + n + ", 0)", x.storms(0, n, 0, upper), MudBoards.OUTSIDE);
                DUE.is("storms(1, " + n + ", 0) of the drowned", x.storms(1, n, 0, upper), MudBoards.OUTSIDE);
            }
            for (int tenths : Edge.outside(0, 10)) {
                DUE.is("storms(0, 1, " + tenths + ")", x.storms(0, 1, tenths, upper), MudBoards.OUTSIDE);
                DUE.is("storms(1, 6, " + tenths + ") of the drowned", x.storms(1, 6, tenths, upper), MudBoards.OUTSIDE);
            }
            for (int n : Edge.inside(1, 6)) {
                for (int tenths : Edge.inside(0, 10)) {
                    DUE.is("storms(0, " + n + ", " + tenths + ")", x.storms(0, n, tenths, upper), 1);
                    DUE.is("of the drowned", x.storms(1, n, tenths, upper), MudBoards.STATE);
                }
            }
        }
    }

    private static void stormsByTenths() {
        DUE.of("in each of the next n HOURS (1 to 6) THE WATER is 1 more by x tenths (0 to 10), by itself");
        MudBoards x = Due.onFlat("M300000000000W5La2");
        int[][] one = {{1, 1}, {9, 10}, {4, 5}, {7, 10}, {3, 5}, {1, 2}, {2, 5}, {3, 10}, {1, 5}, {1, 10}, {0, 1}};
        for (int tenths = 0; tenths <= 10; tenths++) {
            int above = 1;
            int below = 1;
            for (int n = 1; n <= 6; n++) {
                above *= one[tenths][0];
                below = above == 0 ? 1 : below * one[tenths][1];
                storms(x, n, tenths, above, below);
            }
        }
        storms(x, 6, 1, 531441, 1000000);
        storms(x, 6, 2, 4096, 15625);
        storms(x, 6, 9, 1, 1000000);
        storms(x, 6, 5, 1, 64);
    }

    private static void stormsByHeight() {
        DUE.of("that a LARK, that stays, is not DROWNED behind them: a FRACTION.");
        for (int height = 0; height <= 9; height++) {
            for (int board = 0; board <= 3; board++) {
                for (int water = 0; water <= 9; water++) {
                    MudBoards x = Due.onFlat(Edge.heights(9, 6, height) + "W" + water + "Lg" + board);
                    int spare = height + board - water;
                    storms(x, 2, 3, spare < 0 ? 0 : spare == 0 ? 49 : 1, spare == 0 ? 100 : 1);
                    storms(x, 1, 0, spare < 0 ? 0 : 1, 1);
                    storms(x, 1, 10, spare <= 0 ? 0 : 1, 1);
                }
            }
        }
    }

    private static void stormsOfHoursToCome() {
        MudBoards x = Due.onFlat("M500000000000W9W4W5W4W5W4La0");
        int[][] due = {{1, 1}, {1, 2}, {1, 2}, {1, 4}, {1, 4}, {0, 1}};
        for (int n = 1; n <= 6; n++) {
            storms(x, n, 5, due[n - 1]);
        }
        x.walk(0, 2);
        storms(x, 1, 5, 1, 1);
        x = Due.onFlat("M500000000000W9W4W5W4W5W4La0");
        x.hour();
        int[][] later = {{1, 2}, {1, 2}, {1, 4}, {1, 4}, {0, 1}, {0, 1}};
        for (int n = 1; n <= 6; n++) {
            storms(x, n, 5, later[n - 1]);
        }
        storms(Due.onFlat(LOW + "La0"), 6, 1, 531441, 1000000);
        storms(Due.onFlat(LOW + "La1"), 6, 10, 1, 1);
    }

    private static void stormsOfEachLark() {
        MudBoards x = Due.onFlat("M340000000000W5La2La3La1Lb1");
        int[][] due = {{1, 4}, {1, 1}, {0, 1}, {1, 4}};
        for (int lark = 0; lark < 4; lark++) {
            fraction("storms of " + lark, x.storms(lark, 2, 5, true), x.storms(lark, 2, 5, false), due[lark]);
        }
    }
}
