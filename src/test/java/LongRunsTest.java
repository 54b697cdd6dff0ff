import java.util.ArrayList;
import java.util.List;
import java.util.Random;
import java.util.function.ToLongFunction;

/** Runs of 512 calls on one object, each of one kind: the last call is answered as a first one would be. */
public final class LongRunsTest {
    private static final Due DUE = new Due("LongRunsTest");
    private static final int LAST = 512;
    private static final String LOW = "M000000000000";
    private static final int STATE = MudBoards.STATE, FULL = MudBoards.FULL, NONE = MudBoards.NONE;

    private final String run;
    private final MudBoards boards = new MudBoards();
    private int calls;

    private LongRunsTest(String run) {
        this.run = run;
    }

    public static void main(String[] args) {
        DUE.of("An object is used for at most 512 calls after it has been made");
        new LongRunsTest("letters").letters();
        new LongRunsTest("faults").faults();
        new LongRunsTest("flats").flats();
        new LongRunsTest("tides").tides();
        new LongRunsTest("hours alone").hoursAlone();
        new LongRunsTest("undone").undone();
        new LongRunsTest("forgotten").forgotten();
        new LongRunsTest("dug and put back").dugAndPutBack();
        new LongRunsTest("wet finds").wetFinds();
        new LongRunsTest("gone on from").goneOnFrom();
        new LongRunsTest("seen").seen();
        new LongRunsTest("springs").springs();
        new LongRunsTest("told without change").toldWithoutChange();
        lastAsFirst();
        behindTheLast();
        DUE.end();
    }

    // ---- calls, counted

    private void is(String name, ToLongFunction<MudBoards> call, long due) {
        calls++;
        DUE.is(run + ", call " + calls + ": " + name, call.applyAsLong(boards), due);
    }

    private boolean hasRoomFor(int more) {
        return calls + more <= LAST;
    }

    private void tell(String text) {
        for (int i = 0; i < text.length(); i++) {
            char letter = text.charAt(i);
            is("write(" + (int) letter + ")", x -> x.write(letter), i + 1);
        }
    }

    private void tellFlat(String text, int due) {
        tell(text);
        is("flat()", MudBoards::flat, due);
    }

    /** Calls that are refused, up to the last one but so many. */
    private void idleUntil(int left) {
        while (hasRoomFor(left + 1)) {
            is("cell(12, 0)", x -> x.cell(12, 0), MudBoards.UNKNOWN);
        }
    }

    private void endAt512() {
        DUE.is(run + ": calls in all", calls, LAST);
    }

    // ---- the flat

    private void letters() {
        tell("M".repeat(60));
        while (hasRoomFor(5)) {
            is("write(77)", x -> x.write(77), FULL);
        }
        is("count(0)", x -> x.count(0), 60);
        is("fault()", MudBoards::fault, 1);
        is("wipe()", MudBoards::wipe, 60);
        is("write(77)", x -> x.write(77), 1);
        endAt512();
    }

    private void faults() {
        String text = LOW + "W0Fa10La0";
        while (hasRoomFor(2 * text.length() + 1)) {
            for (int length = 1; length <= text.length(); length++) {
                char letter = text.charAt(length - 1);
                boolean isWhole = length == 13 || length == 15 || length == 19 || length == 22;
                int due = length;
                is("write(" + (int) letter + ")", x -> x.write(letter), due);
                is("fault()", MudBoards::fault, isWhole ? NONE : due);
            }
            is("wipe()", MudBoards::wipe, text.length());
        }
        idleUntil(1);
        is("fault()", MudBoards::fault, 0);
        endAt512();
    }

    /** Two flats by turns: each is as it is told, whatever was done on the other one. */
    private void flats() {
        is("see(0, 0, 1)", x -> x.see(0, 0, 1), 1);
        is("seed(9)", x -> x.seed(9), 0);
        for (int round = 0; hasRoomFor(60); round++) {
            boolean isFirst = round % 2 == 0;
            String text = LOW + (isFirst ? "Fa90La0Lb0" : "W1Fa10Fb20Lb1");
            tellFlat(text, isFirst ? 12 : 121);
            is("count(4)", x -> x.count(4), 0);
            is("count(6)", x -> x.count(6), isFirst ? 1 : 3);
            is("count(10)", x -> x.count(10), 0);
            is("undo()", MudBoards::undo, STATE);
            is("again(1)", x -> x.again(1), STATE);
            is("walk(0, 4)", x -> x.walk(0, 4), isFirst ? 4 : 5);
            is("undo()", MudBoards::undo, 0);
            is("dig(0, 0)", x -> x.dig(0, 0), isFirst ? 1 : STATE);
            is("sell(0)", x -> x.sell(0), isFirst ? 9 : STATE);
            is("keep(1)", x -> x.keep(1), 0);
            is("hour()", MudBoards::hour, 0);
            is("phases()", MudBoards::phases, isFirst ? 1 : 0);
            is("wipe()", MudBoards::wipe, text.length());
        }
        idleUntil(2);
        is("count(12)", x -> x.count(12), 1);
        is("seed(0)", x -> x.seed(0), 9);
        endAt512();
    }

    // ---- hours and acts

    private void tides() {
        int[] water = {0, 2, 4, 6, 8, 5};
        tellFlat("M012345678999W0W2W4W6W8W5Lj0", 601);
        for (int hour = 0; hasRoomFor(4); hour++) {
            int now = hour;
            is("count(4)", x -> x.count(4), now);
            is("count(5)", x -> x.count(5), water[now % 6]);
            is("bared(20)", x -> x.bared(20), 0xfff & -1 << water[(now + 20) % 6]);
            is("hour()", MudBoards::hour, 0);
        }
        idleUntil(0);
        endAt512();
    }

    private void hoursAlone() {
        while (hasRoomFor(2)) {
            is("hour()", MudBoards::hour, 0);
        }
        is("count(4)", x -> x.count(4), LAST - 1);
        endAt512();
    }

    private void undone() {
        tellFlat(LOW + "W0W0W1La0Lb1", 302);
        while (hasRoomFor(10)) {
            is("walk(0, 4)", x -> x.walk(0, 4), 4);
            is("hour()", MudBoards::hour, 0);
            is("hour()", MudBoards::hour, 1);
            is("count(9)", x -> x.count(9), 1);
            is("undo()", MudBoards::undo, 2);
            is("count(9)", x -> x.count(9), 0);
            is("undo()", MudBoards::undo, 1);
            is("undo()", MudBoards::undo, 0);
            is("lark(0, 0)", x -> x.lark(0, 0), 0);
            is("undo()", MudBoards::undo, STATE);
        }
        idleUntil(0);
        endAt512();
    }

    private void forgotten() {
        tellFlat(LOW + "La0", 1);
        int acts = 0;
        for (int hour = 0; hasRoomFor(20); hour++) {
            int goal = hour % 2 == 0 ? 1 : 0;
            is("walk", x -> x.walk(0, goal == 1 ? 2 : 1), goal);
            is("hour()", MudBoards::hour, 0);
            acts += 2;
            is("count(11)", x -> x.count(11), Math.min(14, acts));
        }
        int hours = acts / 2;
        for (int left = 13; left >= 0; left--) {
            int due = left;
            is("undo()", MudBoards::undo, due);
        }
        is("undo()", MudBoards::undo, STATE);
        is("count(4)", x -> x.count(4), hours - 7);
        is("lark(0, 0)", x -> x.lark(0, 0), (hours - 7) % 2);
        idleUntil(1);
        is("lark(0, 5)", x -> x.lark(0, 5), 0);
        endAt512();
    }

    private void dugAndPutBack() {
        tellFlat(LOW + "Fe90Fe80Le0Le0", 22);
        for (int round = 0; hasRoomFor(7); round++) {
            int lark = round % 2;
            is("dig(" + lark + ", 1)", x -> x.dig(lark, 1), 1);
            is("dig(" + lark + ", 0)", x -> x.dig(lark, 0), 2);
            is("find(0, 4)", x -> x.find(0, 4), lark);
            is("count(7)", x -> x.count(7), 3);
            is("put(" + lark + ")", x -> x.put(lark), 2);
            is("put(" + lark + ")", x -> x.put(lark), STATE);
            is("cell(4, 2)", x -> x.cell(4, 2), 3);
        }
        idleUntil(1);
        is("count(11)", x -> x.count(11), 14);
        endAt512();
    }

    /** The tide comes again, the hour in which a find was dug does not. */
    private void wetFinds() {
        tellFlat(LOW + "W0W0W0W0W0W0Fa92La0", 611);
        is("keep(0)", x -> x.keep(0), 0);
        while (hasRoomFor(14)) {
            is("dig(0, 0)", x -> x.dig(0, 0), 1);
            for (int i = 0; i < 6; i++) {
                is("hour()", MudBoards::hour, 0);
            }
            is("sell(0)", x -> x.sell(0), 0);
            is("undo()", MudBoards::undo, 7);
            is("put(0)", x -> x.put(0), 1);
            is("dig(0, 0)", x -> x.dig(0, 0), 1);
            is("sell(0)", x -> x.sell(0), 18);
            is("again(0)", x -> x.again(0), 0);
            is("count(10)", x -> x.count(10), 0);
        }
        idleUntil(2);
        is("dig(0, 0)", x -> x.dig(0, 0), 1);
        is("sell(0)", x -> x.sell(0), 18);
        endAt512();
    }

    // ---- slots, what is seen, the seed

    /** Slot 0 stays as it was kept first; slot 1 goes on an hour each round. */
    private void goneOnFrom() {
        tellFlat(LOW + "Fa70La0", 11);
        is("keep(0)", x -> x.keep(0), 0);
        is("keep(1)", x -> x.keep(1), 0);
        for (int round = 0; hasRoomFor(9); round++) {
            int hour = round;
            is("again(0)", x -> x.again(0), 0);
            is("dig(0, 0)", x -> x.dig(0, 0), 1);
            is("sell(0)", x -> x.sell(0), 7);
            is("count(11)", x -> x.count(11), 2);
            is("again(1)", x -> x.again(1), hour);
            is("count(11)", x -> x.count(11), 0);
            is("lark(0, 2)", x -> x.lark(0, 2), 0);
            is("hour()", MudBoards::hour, 0);
            is("keep(1)", x -> x.keep(1), hour + 1);
        }
        idleUntil(1);
        is("again(0)", x -> x.again(0), 0);
        endAt512();
    }

    private void seen() {
        tellFlat("M500000000000W0W1W2W9", 400);
        while (hasRoomFor(16)) {
            is("phases()", MudBoards::phases, 15);
            is("see(0, 0, 1)", x -> x.see(0, 0, 1), 1);
            is("phases()", MudBoards::phases, 7);
            is("see(1, 0, 0)", x -> x.see(1, 0, 0), 2);
            is("phases()", MudBoards::phases, 6);
            is("see(0, 9, 0)", x -> x.see(0, 9, 0), 3);
            is("phases()", MudBoards::phases, 4);
            for (int due = 4; due <= 6; due++) {
                int many = due;
                is("see(0, 0, 1)", x -> x.see(0, 0, 1), many);
            }
            is("see(0, 0, 0)", x -> x.see(0, 0, 0), FULL);
            is("phases()", MudBoards::phases, 4);
            is("count(12)", x -> x.count(12), 6);
            is("hour()", MudBoards::hour, 0);
            is("phases()", MudBoards::phases, 4);
            is("unsee()", MudBoards::unsee, 6);
        }
        idleUntil(1);
        is("phases()", MudBoards::phases, 15);
        endAt512();
    }

    private void springs() {
        tellFlat(LOW + "La0Lb0", 2);
        long seed = 0;
        while (hasRoomFor(2)) {
            is("springs(30)", x -> x.springs(30), 60);
            for (int i = 0; i < 30; i++) {
                seed = seed * 6364136223846793005L + 1442695040888963407L;
            }
        }
        long due = seed;
        idleUntil(1);
        is("seed(0)", x -> x.seed(0), due);
        endAt512();
    }

    // ---- calls that change nothing

    private static List<ToLongFunction<MudBoards>> tellings() {
        return List.of(x -> x.count(6), x -> x.cell(0, 2), x -> x.find(0, 0), x -> x.lark(0, 0), x -> x.fault(),
            x -> x.bared(3), x -> x.flooded(4), x -> x.reach(0, 9), x -> x.home(1), x -> x.gets(0, 9, 0),
            x -> x.gets(1, 3, 1), x -> x.judge(4, 200300407000L), x -> x.judge(2, 500), x -> x.phases(),
            x -> x.share(0, true), x -> x.share(0, false), x -> x.rests(0, 1, 0), x -> x.rests(1, 0, 1),
            x -> x.storms(0, 6, 3, true), x -> x.storms(1, 1, 5, false), x -> x.count(11), x -> x.count(12));
    }

    private void toldWithoutChange() {
        tellFlat("M555533331111W0W2W4W3Fa70Ff42Lj0Le1Le0", 423);
        List<Long> first = new ArrayList<>();
        for (ToLongFunction<MudBoards> telling : tellings()) {
            calls++;
            first.add(telling.applyAsLong(boards));
        }
        while (hasRoomFor(first.size())) {
            for (int i = 0; i < first.size(); i++) {
                is("telling " + i, tellings().get(i), first.get(i));
            }
        }
        idleUntil(0);
        endAt512();
    }

    // ---- the last call, and what comes behind it

    private static List<ToLongFunction<MudBoards>> face() {
        List<ToLongFunction<MudBoards>> face = new ArrayList<>(tellings());
        face.addAll(List.of(x -> x.write(87), x -> x.wipe(), x -> x.flat(), x -> x.walk(0, 3), x -> x.walk(0, 1),
            x -> x.hour(), x -> x.dig(1, 0), x -> x.put(0), x -> x.sell(0), x -> x.undo(), x -> x.see(0, 0, 1),
            x -> x.unsee(), x -> x.seed(5), x -> x.springs(30), x -> x.keep(0), x -> x.again(0), x -> x.again(1)));
        return face;
    }

    /** In the midst of a run: two hours are over, lark 0 has come to b with a find, lark 2 is drowned. */
    private void comeMidway() {
        tellFlat("M555533331111W0W2W4Fb70Fj42Lj0Lb1Lk0", 323);
        is("dig(0, 1)", x -> x.dig(0, 1), 1);
        is("walk(0, 3)", x -> x.walk(0, 3), 5);
        is("keep(1)", x -> x.keep(1), 0);
        is("hour()", MudBoards::hour, 1);
        is("walk(0, 3)", x -> x.walk(0, 3), 1);
        is("see(5, 1, 1)", x -> x.see(5, 1, 1), 1);
        is("hour()", MudBoards::hour, 0);
        is("springs(3)", x -> x.springs(3), 9);
    }

    private static void lastAsFirst() {
        for (int i = 0; i < face().size(); i++) {
            LongRunsTest soon = new LongRunsTest("soon");
            soon.comeMidway();
            long due = face().get(i).applyAsLong(soon.boards);
            LongRunsTest late = new LongRunsTest("as the last call");
            late.comeMidway();
            late.idleUntil(1);
            late.is("call " + i + " of the face", face().get(i), due);
            late.endAt512();
        }
    }

    /** What is answered there is free; but no call may throw, or fail to end. */
    private static void behindTheLast() {
        DUE.of("what later calls answer is free.");
        LongRunsTest late = new LongRunsTest("behind the last call");
        late.comeMidway();
        late.idleUntil(0);
        Random random = new Random(512);
        List<ToLongFunction<MudBoards>> face = face();
        for (int i = 0; i < 20000; i++) {
            face.get(random.nextInt(face.size())).applyAsLong(late.boards);
            int odd = random.nextInt();
            late.boards.walk(odd >>> 30, odd & 7);
            late.boards.judge(1 + (odd & 3), odd);
        }
        DUE.is("calls behind the last one have ended", 1, 1);
    }
}
