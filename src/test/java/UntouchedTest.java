import java.util.EnumSet;
import java.util.List;
import java.util.Set;
import java.util.function.Supplier;
import java.util.function.ToLongFunction;

/** Calls that are not refused change what they tell, and nothing else that other calls show. */
public final class UntouchedTest {
    private static final Due DUE = new Due("UntouchedTest");
    private static final List<Supplier<MudBoards>> SCENES =
        List.of(Scenes::midway, Scenes::unfinished, Scenes::full, Scenes::goneOn, MudBoards::new);
    private static final Set<View> NOTHING = EnumSet.noneOf(View.class);
    private static final Set<View> PLAY = EnumSet.of(View.PLACES, View.AHEAD, View.CHANCES, View.ACTS);

    public static void main(String[] args) {
        telling();
        foretelling();
        chances();
        textSeenAndSeed();
        acting();
        slots();
        flat();
        DUE.end();
    }

    private static void touches(Set<View> views, String name, ToLongFunction<MudBoards> call) {
        for (int i = 0; i < SCENES.size(); i++) {
            for (View view : EnumSet.complementOf(EnumSet.copyOf(views))) {
                touchesNot(view, i, name, call);
            }
        }
    }

    private static void touchesNot(View view, int scene, String name, ToLongFunction<MudBoards> call) {
        MudBoards x = SCENES.get(scene).get();
        call.applyAsLong(x);
        boolean isAsItWas = view.of(x).equals(view.of(SCENES.get(scene).get()));
        DUE.is(name + " in scene " + scene + " has left " + view + " as it was", isAsItWas ? 1 : 0, 1);
    }

    private static void telling() {
        DUE.of("the answers and state changes described above");
        touches(NOTHING, "fault()", MudBoards::fault);
        for (int what = 0; what <= 3; what++) {
            int asked = what;
            touches(NOTHING, "cell(1, " + what + ")", x -> x.cell(1, asked));
        }
        touches(NOTHING, "find(1, 0)", x -> x.find(1, 0));
        touches(NOTHING, "lark(1, 3)", x -> x.lark(1, 3));
        for (int what = 0; what <= 12; what++) {
            int asked = what;
            touches(NOTHING, "count(" + what + ")", x -> x.count(asked));
        }
    }

    private static void foretelling() {
        DUE.of("In what follows nothing is changed.");
        touches(NOTHING, "bared(20)", x -> x.bared(20));
        touches(NOTHING, "flooded(0)", x -> x.flooded(0));
        touches(NOTHING, "reach(1, 9)", x -> x.reach(1, 9));
        touches(NOTHING, "home(1)", x -> x.home(1));
        touches(NOTHING, "gets(1, 9, 0)", x -> x.gets(1, 9, 0));
        touches(NOTHING, "gets(1, 9, 1)", x -> x.gets(1, 9, 1));
        touches(NOTHING, "judge(4, 0)", x -> x.judge(4, 0));
        touches(NOTHING, "judge(4, 113301204412)", x -> x.judge(4, 113301204412L));
        touches(NOTHING, "judge(4, 300234303000)", x -> x.judge(4, 300234303000L));
    }

    private static void chances() {
        touches(NOTHING, "phases()", MudBoards::phases);
        touches(NOTHING, "share(1, true)", x -> x.share(1, true));
        touches(NOTHING, "rests(0, 1, 0)", x -> x.rests(0, 1, 0));
        touches(NOTHING, "rests(1, 3, 1)", x -> x.rests(1, 3, 1));
        touches(NOTHING, "storms(1, 6, 10, false)", x -> x.storms(1, 6, 10, false));
        DUE.of("(Nothing changes but THE SEED.)");
        touches(EnumSet.of(View.SEED), "springs(30)", x -> x.springs(30));
        touches(EnumSet.of(View.SEED), "springs(1)", x -> x.springs(1));
    }

    private static void textSeenAndSeed() {
        DUE.of("the answers and state changes described above");
        touches(EnumSet.of(View.TEXT), "write(87)", x -> x.write(87));
        touches(EnumSet.of(View.TEXT), "wipe()", MudBoards::wipe);
        touches(EnumSet.of(View.SEEN), "see(0, 0, 0)", x -> x.see(0, 0, 0));
        touches(EnumSet.of(View.SEEN), "unsee()", MudBoards::unsee);
        touches(EnumSet.of(View.SEED), "seed(-5)", x -> x.seed(-5));
    }

    private static void acting() {
        for (int way = 1; way <= 4; way++) {
            int to = way;
            touches(PLAY, "walk(1, " + way + ")", x -> x.walk(1, to));
        }
        touches(PLAY, "hour()", MudBoards::hour);
        touches(PLAY, "dig(3, 4)", x -> x.dig(3, 4));
        touches(PLAY, "put(1)", x -> x.put(1));
        touches(PLAY, "sell(0)", x -> x.sell(0));
        touches(PLAY, "undo()", MudBoards::undo);
    }

    private static void slots() {
        DUE.of("SLOTS 0 to 1 keep where LARKS are, what they carry, COINS, who is DROWNED, has WALKED, where FINDS are, THE HOUR");
        touches(EnumSet.of(View.SLOT_0), "keep(0)", x -> x.keep(0));
        touches(EnumSet.of(View.SLOT_1), "keep(1)", x -> x.keep(1));
        touches(PLAY, "again(0)", x -> x.again(0));
        touches(PLAY, "again(1)", x -> x.again(1));
    }

    /** The text is the flat already in the first scene: what is seen shows the same by it. */
    private static void flat() {
        DUE.of("(THE ROW of ACTS is empty, what was kept is gone; SEEN, THE SEED stay)");
        for (View view : List.of(View.TEXT, View.SEEN, View.SEED)) {
            touchesNot(view, 0, "flat()", MudBoards::flat);
        }
    }
}
