import java.util.Set;

/** Each sentence on told doings that names an edge: promise 20. */
public final class JudgeEdgesTest {
    private static final Due DUE = new Due("JudgeEdgesTest");
    private static final String LOW = "M000000000000";
    private static final int NONE = MudBoards.NONE;

    public static void main(String[] args) {
        howManyDoings();
        howManyFigures();
        everyDoing();
        everyDoingInItsPlace();
        lastOfAll();
        walkedAsAnAct();
        dugAsAnAct();
        soldAsAnAct();
        coinsOrMore();
        notDrowned();
        placeOfTheFirst();
        DUE.end();
    }

    private static void howManyDoings() {
        DUE.of("JUDGED: n doings (1 to 4)");
        MudBoards x = Due.onFlat(LOW + "La0");
        for (int n : Edge.inside(1, 4)) {
            DUE.is("judge(" + n + ", 0)", x.judge(n, 0), NONE);
        }
        for (int n : Edge.outside(1, 4)) {
            DUE.is("judge(" + n + ", 0)", x.judge(n, 0), MudBoards.OUTSIDE);
            DUE.is("judge(" + n + ", -1)", x.judge(n, -1), MudBoards.OUTSIDE);
            DUE.is("judge(" + n + ", 102)", x.judge(n, 102), MudBoards.OUTSIDE);
        }
    }

    private static void howManyFigures() {
        DUE.of("OUTSIDE: n, row (0 or more, 3 n figures at most).");
        MudBoards x = Due.onFlat(LOW + "La0");
        long[] first = {1000L, 1000000L, 1000000000L, 1000000000000L};
        for (int n = 1; n <= 4; n++) {
            DUE.is("the least for " + n, x.judge(n, 0), NONE);
            DUE.is("the greatest for " + n, x.judge(n, first[n - 1] - 1), 0);
            DUE.is("one more for " + n, x.judge(n, first[n - 1]), MudBoards.OUTSIDE);
            DUE.is("two more for " + n, x.judge(n, first[n - 1] + 1), MudBoards.OUTSIDE);
            DUE.is("one less than 0 for " + n, x.judge(n, -1), MudBoards.OUTSIDE);
            DUE.is("the least long for " + n, x.judge(n, Long.MIN_VALUE), MudBoards.OUTSIDE);
            DUE.is("the greatest long for " + n, x.judge(n, Long.MAX_VALUE), MudBoards.OUTSIDE);
            DUE.is("0 once its upper bits are cut, for " + n, x.judge(n, 1L << 62), MudBoards.OUTSIDE);
        }
        DUE.is("of more than 32 bits", x.judge(4, 102000101000L), NONE);
        DUE.is("of no more than 0 in its lower 32 bits", x.judge(3, 1L << 32), MudBoards.OUTSIDE);
    }

    /** A find and two larks, a and b, without tides: all that can be, and is so, at first. */
    private static final Set<Integer> CAN_BE = Set.of(0, 102, 104, 111, 112, 114, 200, 400, 410, 500, 501);

    private static void everyDoing() {
        DUE.of("told as three figures each (0, 0, 0: AN HOUR; 1, a LARK, a WAY 1 to 4: WALKED; 2, a LARK, a FIND: DUG; "
            + "3, 0, a LARK: SOLD; 4, a LARK, v: it has v COINS or more; 5, 0, a LARK: it is not DROWNED)");
        for (int from = 0; from < 1000; from += 400) {
            MudBoards x = Due.onFlat(LOW + "Fa50La0Lb0");
            for (int doing = from; doing < Math.min(1000, from + 400); doing++) {
                DUE.is("judge(1, " + doing + ")", x.judge(1, doing), CAN_BE.contains(doing) ? NONE : 0);
            }
        }
    }

    private static void everyDoingInItsPlace() {
        long[] unit = {1, 1000, 1000000, 1000000000};
        for (int n = 2; n <= 4; n++) {
            for (int place = 0; place < n; place++) {
                for (int from = 0; from < 1000; from += 400) {
                    MudBoards x = Due.onFlat(LOW + "Fa50La0Lb0");
                    for (int doing = from; doing < Math.min(1000, from + 400); doing++) {
                        long row = doing * unit[n - 1 - place];
                        DUE.is("judge(" + n + ", " + row + ")", x.judge(n, row), CAN_BE.contains(doing) ? NONE : place);
                    }
                }
            }
        }
    }

    private static void lastOfAll() {
        // four larks and five finds, all at a
        MudBoards x = Due.onFlat(LOW + "Fa50Fa50Fa50Fa50Fa50La0La0La0La0");
        for (int lark = 0; lark <= 9; lark++) {
            int due = lark <= 3 ? NONE : 0;
            DUE.is("walked by " + lark, x.judge(1, 102 + 10 * lark), due);
            DUE.is("dug by " + lark, x.judge(1, 200 + 10 * lark), due);
            DUE.is("coins of " + lark, x.judge(1, 400 + 10 * lark), due);
            DUE.is("not drowned: " + lark, x.judge(1, 500 + lark), due);
            DUE.is("sold by " + lark, x.judge(2, (200 + 10 * lark) * 1000L + 300 + lark), due);
            DUE.is("find " + lark, x.judge(1, 200 + lark), lark <= 4 ? NONE : 0);
        }
        x = new MudBoards();
        for (int doing : new int[] {101, 200, 300, 400, 500}) {
            DUE.is("without larks: " + doing, x.judge(1, doing), 0);
        }
    }

    private static void walkedAsAnAct() {
        DUE.of("1, a LARK, a WAY 1 to 4: WALKED");
        MudBoards x = Due.onFlat("M990000000000W0W5Lb0La0");
        DUE.is("walked and back in the hour", x.judge(2, 101102), 1);
        DUE.is("walked, an hour, back", x.judge(3, 101000102), NONE);
        DUE.is("another walked, too", x.judge(2, 101112), NONE);
        DUE.is("down at high water", x.judge(2, 104), 1);
        DUE.is("down at low water, drowned, walked", x.judge(4, 104000000103L), 3);
        x.walk(0, 1);
        DUE.is("walked already", x.judge(1, 102), 0);
        DUE.is("but not in the next hour", x.judge(2, 102), NONE);
    }

    private static void dugAsAnAct() {
        DUE.of("2, a LARK, a FIND: DUG");
        MudBoards x = Due.onFlat(LOW + "W0W1Fa50Fa60Fa70Fb80La1La1");
        DUE.is("two", x.judge(2, 200201), NONE);
        DUE.is("three", x.judge(3, 200201202), 2);
        DUE.is("two, sold, one more", x.judge(4, 200201300202L), NONE);
        DUE.is("the same twice", x.judge(2, 200200), 1);
        DUE.is("the same by another", x.judge(2, 200210), 1);
        DUE.is("elsewhere", x.judge(1, 203), 0);
        DUE.is("not bared", x.judge(2, 200), 1);
        DUE.is("bared again", x.judge(3, 200), NONE);
        x.dig(0, 0);
        x.dig(0, 1);
        DUE.is("a third, upon two that it carries already", x.judge(1, 202), 0);
    }

    private static void soldAsAnAct() {
        DUE.of("3, 0, a LARK: SOLD");
        MudBoards x = Due.onFlat(LOW + "Fa92Fe50La0Le0");
        DUE.is("nothing", x.judge(1, 300), 0);
        DUE.is("twice", x.judge(3, 200300300), 2);
        DUE.is("not in row 0", x.judge(2, 211301), 1);
        DUE.is("in row 0", x.judge(3, 211113301), NONE);
        DUE.is("wet in the hour: 18", x.judge(3, 200300409), NONE);
        DUE.is("wet in the next hour: none", x.judge(4, 200000300401L), 3);
        DUE.is("wet in the next hour: 0 or more", x.judge(4, 200000300400L), NONE);
        x.dig(0, 0);
        DUE.is("what it carries already", x.judge(1, 300), NONE);
    }

    private static void coinsOrMore() {
        DUE.of("4, a LARK, v: it has v COINS or more");
        for (int age = 1; age <= 9; age++) {
            MudBoards x = Due.onFlat(LOW + "Fa" + age + "0La0Lb0");
            for (int v = 0; v <= 9; v++) {
                DUE.is(v + " coins of 0", x.judge(1, 400 + v), v == 0 ? NONE : 0);
                DUE.is(v + " coins of " + age, x.judge(3, 200300400L + v), v <= age ? NONE : 2);
                DUE.is(v + " coins of another", x.judge(3, 200300410L + v), v == 0 ? NONE : 2);
            }
            x.dig(0, 0);
            x.sell(0);
            for (int v = 0; v <= 9; v++) {
                DUE.is(v + " coins of " + age + ", had already", x.judge(1, 400 + v), v <= age ? NONE : 0);
            }
        }
    }

    private static void notDrowned() {
        DUE.of("5, 0, a LARK: it is not DROWNED");
        MudBoards x = Due.onFlat("M100000000000W0W1W2La0La1Lb0");
        int[][] drownedIn = {{0, 2}, {1, 9}, {2, 1}};
        for (int[] each : drownedIn) {
            for (int hours = 0; hours <= 3; hours++) {
                DUE.is("lark " + each[0] + " in " + hours, x.judge(hours + 1, 500 + each[0]), hours >= each[1] ? hours : NONE);
            }
        }
        x.hour();
        DUE.is("drowned already", x.judge(1, 502), 0);
        DUE.is("coins of the drowned", x.judge(1, 420), NONE);
        DUE.is("for good", x.judge(4, 502), 3);
    }

    private static void placeOfTheFirst() {
        DUE.of("the place of the first that can not be (or is not so); NONE: none.");
        MudBoards x = Due.onFlat(LOW + "La0");
        DUE.is("the first of four that can not be", x.judge(4, 300300300300L), 0);
        DUE.is("the second", x.judge(4, 300300300L), 1);
        DUE.is("the third", x.judge(4, 300300L), 2);
        DUE.is("the fourth", x.judge(4, 300L), 3);
        DUE.is("none", x.judge(4, 102000101500L), NONE);
        DUE.is("nothing is changed by it", x.judge(4, 102000101500L), NONE);
        DUE.is("the hour", x.count(4), 0);
    }
}
