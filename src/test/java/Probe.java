import java.util.List;
import java.util.function.Function;
import java.util.function.Supplier;

/**
 * Tells whether a refused call has left the state unchanged: an object that got the call is compared with a twin
 * that did not. Each part of the state is looked at on a pair of its own, as looking at z, at what undo brings
 * back, at the snapshot or at the buffer changes the object, and as an object is promised to work for 512 calls.
 */
final class Probe {
    /** The error position is a part for itself, as a refused load may change it, and the buffer. */
    static final List<Function<SkirmishGrid, String>> WITHOUT_BUFFER = List.of(Probe::grid, Games::state, Probe::undone,
            Probe::dice, Probe::rows, Probe::restored);
    private static final List<Function<SkirmishGrid, String>> PARTS = List.of(Probe::grid, Games::state, Probe::undone,
            Probe::dice, Probe::rows, Probe::restored, Probe::error, Probe::buffer);

    private Probe() {
    }

    static void refused(String what, Class<? extends RuntimeException> want, Supplier<SkirmishGrid> build,
            Function<SkirmishGrid, Object> call) {
        for (Function<SkirmishGrid, String> part : PARTS) {
            SkirmishGrid game = build.get();
            Check.raises(what, want, () -> call.apply(game));
            Check.same(what + " leaves the state unchanged", part.apply(build.get()), part.apply(game));
        }
    }

    static String answer(Supplier<Object> call) {
        try {
            return String.valueOf(call.get());
        } catch (RuntimeException e) {
            return e.getClass().getSimpleName();
        }
    }

    private static String grid(SkirmishGrid game) {
        StringBuilder all = new StringBuilder();
        for (int row = 0; row < 9; row++) {
            for (int column = 0; column < 9; column++) {
                int there = row;
                int besides = column;
                String sign = answer(() -> game.terrain(there, besides));
                all.append(sign.length() == 1 ? sign : " ");
            }
        }
        return all.toString();
    }

    private static String error(SkirmishGrid game) {
        return answer(() -> game.errorPosition());
    }

    private static String brief(SkirmishGrid game) {
        StringBuilder all = new StringBuilder();
        for (int unit = 0; unit < game.unitCount(); unit++) {
            all.append(game.unit(unit, 2)).append(' ').append(game.unit(unit, 3)).append(' ')
                    .append(game.unit(unit, 4)).append(' ').append(game.unit(unit, 6)).append(" | ");
        }
        return all.append(game.commandCount()).append(' ').append(game.eventCount()).append(' ').append(game.round())
                .append(' ').append(answer(() -> game.current())).append('\n').toString();
    }

    private static String undone(SkirmishGrid game) {
        StringBuilder all = new StringBuilder();
        for (int i = 0; i < 9; i++) {
            all.append(answer(() -> game.undo())).append(' ').append(brief(game));
        }
        return all.toString();
    }

    /** What is rolled in the next rounds tells z; a fight that has not begun gets what it needs for that. */
    private static String dice(SkirmishGrid game) {
        StringBuilder all = new StringBuilder(answer(() -> game.isReplayed()));
        for (int cell = 0; cell < 9 && game.condition() == 0; cell++) {
            int there = cell;
            all.append(answer(() -> game.addUnit(there % 2, 0, there))).append(' ');
        }
        all.append(answer(() -> game.begin())).append(' ');
        for (int turn = 0; turn < 12; turn++) {
            all.append(answer(() -> game.endTurn())).append(' ');
            for (int unit = 0; unit < game.unitCount(); unit++) {
                all.append(game.unit(unit, 7)).append(' ');
            }
        }
        return all.append(answer(() -> game.isReplayed())).toString();
    }

    private static String rows(SkirmishGrid game) {
        StringBuilder all = new StringBuilder();
        for (int i = 0; i < 18; i++) {
            int row = i / 9;
            int index = i % 9;
            all.append(answer(() -> game.storedBits(row, index))).append(' ');
        }
        all.append(answer(() -> game.copyHealths(0, 0))).append(' ');
        all.append(answer(() -> game.copyHealths(1, 0))).append(' ');
        for (int i = 0; i < 2; i++) {
            int row = i;
            game.storeHealths(row, true);
            all.append("with ints: ").append(answer(() -> game.copyHealths(1 - row, 0))).append(' ');
        }
        return all.toString();
    }

    private static String restored(SkirmishGrid game) {
        String answer = answer(() -> game.restore());
        return answer + " " + brief(game) + grid(game) + answer(() -> game.undo()) + dice(game);
    }

    private static String buffer(SkirmishGrid game) {
        String first = answer(() -> game.append('.'));
        String second = answer(() -> game.load(5));
        return first + " " + second + " " + grid(game) + error(game);
    }
}
