import java.util.ArrayList;
import java.util.List;
import java.util.function.Supplier;
import java.util.function.ToLongFunction;

/** Terms: of several refusals the first that a call names; what is refused changes nothing that other calls show. */
public final class RefusalsTest {
    private static final Due DUE = new Due("RefusalsTest");
    private static final int UNKNOWN = MudBoards.UNKNOWN, OUTSIDE = MudBoards.OUTSIDE;
    private static final int STATE = MudBoards.STATE, FULL = MudBoards.FULL;

    /** A scene, and what each view shows of it when nothing is called. */
    private final Supplier<MudBoards> scene;
    private final List<List<Long>> untouched = new ArrayList<>();

    private RefusalsTest(Supplier<MudBoards> scene) {
        this.scene = scene;
        for (View view : View.values()) {
            untouched.add(view.of(scene.get()));
        }
    }

    public static void main(String[] args) {
        DUE.of("REFUSALS, of several the first that a call names: UNKNOWN (there is no such CELL, FIND, LARK, SLOT), "
            + "OUTSIDE (another number is not as told), STATE (as told), FULL. What is refused changes nothing.");
        List<Supplier<MudBoards>> scenes = List.of(Scenes::midway, Scenes::unfinished, Scenes::full, Scenes::goneOn);
        for (Supplier<MudBoards> scene : scenes) {
            RefusalsTest test = new RefusalsTest(scene);
            test.telling();
            test.actsByNumbers();
            test.foretelling();
            test.foretellingOfTheDrowned();
            test.chances();
            test.slotsAndCounts();
        }
        new RefusalsTest(Scenes::midway).actsByState();
        new RefusalsTest(Scenes::unfinished).unfinishedText();
        new RefusalsTest(Scenes::full).whenFull();
        new RefusalsTest(Scenes::goneOn).noActs();
        new RefusalsTest(MudBoards::new).onNothing();
        DUE.end();
    }

    private void refused(int due, String name, ToLongFunction<MudBoards> call) {
        for (View view : View.values()) {
            MudBoards x = scene.get();
            DUE.is(name, call.applyAsLong(x), due);
            boolean isAsItWas = view.of(x).equals(untouched.get(view.ordinal()));
            DUE.is(name + " has left " + view + " as it was", isAsItWas ? 1 : 0, 1);
        }
    }

    private void telling() {
        refused(OUTSIDE, "write(-1)", x -> x.write(-1));
        refused(OUTSIDE, "write(256)", x -> x.write(256));
        refused(UNKNOWN, "cell(-1, 0)", x -> x.cell(-1, 0));
        refused(UNKNOWN, "cell(12, 4)", x -> x.cell(12, 4));
        refused(OUTSIDE, "cell(0, -1)", x -> x.cell(0, -1));
        refused(OUTSIDE, "cell(11, 4)", x -> x.cell(11, 4));
        refused(UNKNOWN, "find(-1, -1)", x -> x.find(-1, -1));
        refused(UNKNOWN, "find(5, 0)", x -> x.find(5, 0));
        refused(OUTSIDE, "find(0, -1)", x -> x.find(0, -1));
        refused(OUTSIDE, "find(4, 5)", x -> x.find(4, 5));
        refused(UNKNOWN, "lark(-1, 0)", x -> x.lark(-1, 0));
        refused(UNKNOWN, "lark(4, 6)", x -> x.lark(4, 6));
        refused(OUTSIDE, "lark(0, -1)", x -> x.lark(0, -1));
        refused(OUTSIDE, "lark(3, 6)", x -> x.lark(3, 6));
    }

    private void actsByNumbers() {
        refused(UNKNOWN, "walk(-1, 1)", x -> x.walk(-1, 1));
        refused(UNKNOWN, "walk(4, 1)", x -> x.walk(4, 1));
        refused(UNKNOWN, "walk(4, 0)", x -> x.walk(4, 0));
        refused(UNKNOWN, "walk(-1, 5)", x -> x.walk(-1, 5));
        refused(OUTSIDE, "walk(1, 0)", x -> x.walk(1, 0));
        refused(OUTSIDE, "walk(1, 5)", x -> x.walk(1, 5));
        refused(OUTSIDE, "walk(2, 0), a drowned one", x -> x.walk(2, 0));
        refused(OUTSIDE, "walk(2, 5), a drowned one", x -> x.walk(2, 5));
        refused(OUTSIDE, "walk(0, 5), that has walked", x -> x.walk(0, 5));
        refused(STATE, "walk(2, 1), a drowned one", x -> x.walk(2, 1));
        refused(STATE, "walk(1, 1), where there is no cell", x -> x.walk(1, 1));
        refused(UNKNOWN, "dig(-1, 0)", x -> x.dig(-1, 0));
        refused(UNKNOWN, "dig(4, 4)", x -> x.dig(4, 4));
        refused(UNKNOWN, "dig(0, -1)", x -> x.dig(0, -1));
        refused(UNKNOWN, "dig(0, 5)", x -> x.dig(0, 5));
        refused(UNKNOWN, "dig(4, 5)", x -> x.dig(4, 5));
        refused(UNKNOWN, "dig(2, 5), a drowned one", x -> x.dig(2, 5));
        refused(UNKNOWN, "dig(1, 5), that carries two", x -> x.dig(1, 5));
        refused(UNKNOWN, "put(-1)", x -> x.put(-1));
        refused(UNKNOWN, "put(4)", x -> x.put(4));
        refused(STATE, "put(2), a drowned one", x -> x.put(2));
        refused(UNKNOWN, "sell(-1)", x -> x.sell(-1));
        refused(UNKNOWN, "sell(4)", x -> x.sell(4));
        refused(STATE, "sell(2), a drowned one", x -> x.sell(2));
    }

    private void actsByState() {
        refused(STATE, "walk(0, 1), that has walked", x -> x.walk(0, 1));
        refused(STATE, "walk(3, 4), that has walked", x -> x.walk(3, 4));
        refused(STATE, "dig(2, 4), a drowned one", x -> x.dig(2, 4));
        refused(STATE, "dig(1, 4), that carries two", x -> x.dig(1, 4));
        refused(STATE, "dig(0, 0), sold by it", x -> x.dig(0, 0));
        refused(STATE, "dig(0, 1), carried by it", x -> x.dig(0, 1));
        refused(STATE, "dig(3, 1), carried by another", x -> x.dig(3, 1));
        refused(STATE, "dig(3, 2), carried elsewhere", x -> x.dig(3, 2));
        refused(STATE, "put(3), that carries nothing", x -> x.put(3));
        refused(STATE, "sell(3), that carries nothing", x -> x.sell(3));
        refused(STATE, "sell(1), not in row 0", x -> x.sell(1));
        refused(STATE, "again(1), where none were kept", x -> x.again(1));
    }

    private void foretelling() {
        refused(OUTSIDE, "bared(-1)", x -> x.bared(-1));
        refused(OUTSIDE, "bared(21)", x -> x.bared(21));
        refused(UNKNOWN, "flooded(-1)", x -> x.flooded(-1));
        refused(UNKNOWN, "flooded(12)", x -> x.flooded(12));
        refused(UNKNOWN, "reach(-1, 10)", x -> x.reach(-1, 10));
        refused(UNKNOWN, "reach(4, 0)", x -> x.reach(4, 0));
        refused(OUTSIDE, "reach(0, -1)", x -> x.reach(0, -1));
        refused(OUTSIDE, "reach(0, 10)", x -> x.reach(0, 10));
        refused(UNKNOWN, "home(-1)", x -> x.home(-1));
        refused(UNKNOWN, "home(4)", x -> x.home(4));
        refused(UNKNOWN, "gets(-1, 0, 2)", x -> x.gets(-1, 0, 2));
        refused(UNKNOWN, "gets(4, 1, 0)", x -> x.gets(4, 1, 0));
        refused(OUTSIDE, "gets(0, 0, 0)", x -> x.gets(0, 0, 0));
        refused(OUTSIDE, "gets(0, 10, 0)", x -> x.gets(0, 10, 0));
        refused(OUTSIDE, "gets(0, 1, -1)", x -> x.gets(0, 1, -1));
        refused(OUTSIDE, "gets(0, 9, 2)", x -> x.gets(0, 9, 2));
        refused(OUTSIDE, "judge(0, 0)", x -> x.judge(0, 0));
        refused(OUTSIDE, "judge(5, 0)", x -> x.judge(5, 0));
        refused(OUTSIDE, "judge(1, -1)", x -> x.judge(1, -1));
        refused(OUTSIDE, "judge(1, 1000)", x -> x.judge(1, 1000));
        refused(OUTSIDE, "judge(4, 10^12)", x -> x.judge(4, 1000000000000L));
    }

    private void foretellingOfTheDrowned() {
        refused(OUTSIDE, "reach(2, -1), a drowned one", x -> x.reach(2, -1));
        refused(OUTSIDE, "reach(2, 10), a drowned one", x -> x.reach(2, 10));
        refused(STATE, "reach(2, 0), a drowned one", x -> x.reach(2, 0));
        refused(STATE, "home(2), a drowned one", x -> x.home(2));
        refused(OUTSIDE, "gets(2, 0, 0), a drowned one", x -> x.gets(2, 0, 0));
        refused(OUTSIDE, "gets(2, 1, 2), a drowned one", x -> x.gets(2, 1, 2));
        refused(STATE, "gets(2, 1, 0), a drowned one", x -> x.gets(2, 1, 0));
        refused(STATE, "gets(2, 9, 1), a drowned one", x -> x.gets(2, 9, 1));
    }

    private void chances() {
        refused(UNKNOWN, "see(-1, 0, 0)", x -> x.see(-1, 0, 0));
        refused(UNKNOWN, "see(12, 10, 2)", x -> x.see(12, 10, 2));
        refused(OUTSIDE, "see(0, -1, 0)", x -> x.see(0, -1, 0));
        refused(OUTSIDE, "see(0, 10, 0)", x -> x.see(0, 10, 0));
        refused(OUTSIDE, "see(0, 0, -1)", x -> x.see(0, 0, -1));
        refused(OUTSIDE, "see(11, 9, 2)", x -> x.see(11, 9, 2));
        refused(UNKNOWN, "rests(4, 4, 2)", x -> x.rests(4, 4, 2));
        refused(UNKNOWN, "rests(-1, 0, 0)", x -> x.rests(-1, 0, 0));
        refused(UNKNOWN, "rests(2, 4, 0), a drowned one", x -> x.rests(2, 4, 0));
        refused(OUTSIDE, "rests(0, 0, 0)", x -> x.rests(0, 0, 0));
        refused(OUTSIDE, "rests(2, 2, 0), a drowned one", x -> x.rests(2, 2, 0));
        refused(OUTSIDE, "rests(0, 1, 2)", x -> x.rests(0, 1, 2));
        refused(OUTSIDE, "rests(0, 2, -1), a drowned one", x -> x.rests(0, 2, -1));
        refused(STATE, "rests(0, 2, 0), a drowned one", x -> x.rests(0, 2, 0));
        refused(STATE, "rests(2, 1, 1), a drowned one", x -> x.rests(2, 1, 1));
        for (boolean upper : new boolean[] {true, false}) {
            refused(UNKNOWN, "share(-1)", x -> x.share(-1, upper));
            refused(UNKNOWN, "share(4)", x -> x.share(4, upper));
            refused(UNKNOWN, "storms(4, 0, 11)", x -> x.storms(4, 0, 11, upper));
            refused(UNKNOWN, "storms(-1, 1, 0)", x -> x.storms(-1, 1, 0, upper));
            refused(OUTSIDE, "storms(0, 0, 0)", x -> x.storms(0, 0, 0, upper));
            refused(OUTSIDE, "storms(0, 7, 0)", x -> x.storms(0, 7, 0, upper));
            refused(OUTSIDE, "storms(0, 1, -1)", x -> x.storms(0, 1, -1, upper));
            refused(OUTSIDE, "storms(0, 6, 11)", x -> x.storms(0, 6, 11, upper));
            refused(OUTSIDE, "storms(2, 7, 0), a drowned one", x -> x.storms(2, 7, 0, upper));
            refused(OUTSIDE, "storms(2, 1, 11), a drowned one", x -> x.storms(2, 1, 11, upper));
            refused(STATE, "storms(2, 1, 0), a drowned one", x -> x.storms(2, 1, 0, upper));
        }
    }

    private void slotsAndCounts() {
        refused(OUTSIDE, "springs(0)", x -> x.springs(0));
        refused(OUTSIDE, "springs(31)", x -> x.springs(31));
        refused(UNKNOWN, "keep(-1)", x -> x.keep(-1));
        refused(UNKNOWN, "keep(2)", x -> x.keep(2));
        refused(UNKNOWN, "again(-1)", x -> x.again(-1));
        refused(UNKNOWN, "again(2)", x -> x.again(2));
        refused(OUTSIDE, "count(-1)", x -> x.count(-1));
        refused(OUTSIDE, "count(13)", x -> x.count(13));
    }

    private void unfinishedText() {
        refused(STATE, "flat()", MudBoards::flat);
    }

    private void whenFull() {
        refused(FULL, "write(0)", x -> x.write(0));
        refused(FULL, "write(255)", x -> x.write(255));
        refused(OUTSIDE, "write(256)", x -> x.write(256));
        refused(STATE, "flat()", MudBoards::flat);
        refused(FULL, "see(0, 0, 0)", x -> x.see(0, 0, 0));
        refused(FULL, "see(11, 9, 1)", x -> x.see(11, 9, 1));
        refused(UNKNOWN, "see(12, 0, 0)", x -> x.see(12, 0, 0));
        refused(OUTSIDE, "see(11, 10, 1)", x -> x.see(11, 10, 1));
    }

    private void noActs() {
        refused(STATE, "undo()", MudBoards::undo);
        refused(STATE, "again(1), where none were kept", x -> x.again(1));
    }

    private void onNothing() {
        refused(STATE, "flat()", MudBoards::flat);
        refused(STATE, "undo()", MudBoards::undo);
        refused(STATE, "again(0)", x -> x.again(0));
        refused(STATE, "again(1)", x -> x.again(1));
        refused(UNKNOWN, "find(0, 0)", x -> x.find(0, 0));
        refused(UNKNOWN, "lark(0, 0)", x -> x.lark(0, 0));
        refused(UNKNOWN, "walk(0, 1)", x -> x.walk(0, 1));
        refused(UNKNOWN, "walk(0, 0)", x -> x.walk(0, 0));
        refused(UNKNOWN, "dig(0, 0)", x -> x.dig(0, 0));
        refused(UNKNOWN, "put(0)", x -> x.put(0));
        refused(UNKNOWN, "sell(0)", x -> x.sell(0));
        refused(UNKNOWN, "reach(0, 0)", x -> x.reach(0, 0));
        refused(UNKNOWN, "home(0)", x -> x.home(0));
        refused(UNKNOWN, "gets(0, 1, 0)", x -> x.gets(0, 1, 0));
        refused(UNKNOWN, "share(0, true)", x -> x.share(0, true));
        refused(UNKNOWN, "rests(0, 1, 0)", x -> x.rests(0, 1, 0));
        refused(UNKNOWN, "rests(0, 0, 0)", x -> x.rests(0, 0, 0));
        refused(UNKNOWN, "storms(0, 1, 0, true)", x -> x.storms(0, 1, 0, true));
    }
}
