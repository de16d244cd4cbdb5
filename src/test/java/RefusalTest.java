import java.util.List;
import java.util.NoSuchElementException;
import java.util.Set;
import java.util.TreeSet;
import java.util.function.Function;
import java.util.function.Supplier;

/**
 * Every "Throws" of the document: the exception, the one that is listed first where two are due, and a state that
 * is unchanged after it. At the end the document's own list is asked whether one was left out.
 */
public final class RefusalTest {
    private static final Class<? extends RuntimeException> INDEX = IndexOutOfBoundsException.class;
    private static final Class<? extends RuntimeException> ARGUMENT = IllegalArgumentException.class;
    private static final Class<? extends RuntimeException> STATE = IllegalStateException.class;
    private static final Class<? extends RuntimeException> UNSUPPORTED = UnsupportedOperationException.class;
    private static final Class<? extends RuntimeException> ELEMENT = NoSuchElementException.class;
    private static final Class<? extends RuntimeException> ARITHMETIC = ArithmeticException.class;

    /** Pairs that can never be due in one call: a row that was not stored has no element type. */
    private static final Set<String> NEVER_BOTH = Set.of("35 NoSuchElementException UnsupportedOperationException");

    /** Cell 18 is fire, 28 is open behind walls, and the cells at the right are cut off by walls too. */
    private static final String GROUND = "..#.../..#.~./..#.o./^..###/...#.#";

    private static final Set<String> seen = new TreeSet<>();
    private static final Set<String> seenPairs = new TreeSet<>();

    public static void main(String[] arguments) {
        appendAndLoad();
        grid();
        addUnit();
        unitAndTurns();
        paths();
        chances(18, (game, unit, target) -> game.chance(unit, target));
        chances(19, (game, unit, target) -> game.meanDamage(unit, target));
        bestTarget();
        move();
        attack();
        throwAt();
        otherCommands();
        eventsAndUndo();
        rows();
        restore();
        nothingLeftOut();
        Check.finish();
    }

    /** The first exception is due; the others would be due too if they were not listed after it. */
    @SafeVarargs
    private static void refuse(int promise, String what, Supplier<SkirmishGrid> build,
            Function<SkirmishGrid, Object> call, Class<? extends RuntimeException>... due) {
        seen.add(promise + " " + due[0].getSimpleName());
        for (int i = 1; i < due.length; i++) {
            seenPairs.add(promise + " " + due[0].getSimpleName() + " " + due[i].getSimpleName());
        }
        Probe.refused(promise + " " + what, due[0], build, call);
    }

    private static void nothingLeftOut() {
        Set<String> listed = new TreeSet<>();
        for (List<String> exceptions : Doc.exceptions()) {
            for (int i = 0; i < exceptions.size(); i++) {
                listed.add(exceptions.get(i));
                for (int j = i + 1; j < exceptions.size(); j++) {
                    String pair = exceptions.get(i) + " " + exceptions.get(j).replaceFirst("\\d+ ", "");
                    Check.same("has a test: first " + pair, true, seenPairs.contains(pair) || NEVER_BOTH.contains(pair));
                }
            }
        }
        Check.same("the document's list was found", true, listed.size() > 50);
        Check.same("every exception of the document has a test", listed, seen);
    }

    // Objects with something in every part of their state.

    private static SkirmishGrid rich(String text, int seed, int[]... units) {
        SkirmishGrid game = new SkirmishGrid();
        Games.type(game, "...x");
        Check.raises("an error position", ARGUMENT, () -> game.load(1));
        Games.type(game, text);
        game.load(seed);
        Games.with(game, units);
        game.storeHealths(0, true);
        game.storeHealths(1, false);
        game.snapshot();
        Games.type(game, ".../#o~/^.");
        return game;
    }

    /** The scout always has the first turn, as the initiative of the heavies is less by 6. */
    private static SkirmishGrid before() {
        return rich(GROUND, 77, Games.man(0, 0, 0), Games.man(1, 2, 13), Games.man(1, 2, 5), Games.man(0, 2, 26));
    }

    private static SkirmishGrid full() {
        return rich("..#.../....../......", 77, Games.man(0, 0, 0), Games.man(1, 0, 1), Games.man(0, 0, 3), Games.man(1, 0, 4),
                Games.man(0, 0, 5), Games.man(1, 0, 6), Games.man(0, 0, 7), Games.man(1, 0, 8));
    }

    private static SkirmishGrid fighting() {
        SkirmishGrid game = before();
        game.begin();
        game.move(6);
        game.guard();
        for (int turn = 0; turn < 4; turn++) {
            game.endTurn();
        }
        Check.same("the scout has its second turn", "0 2 2", game.current() + " " + game.unit(0, 6) + " " + game.round());
        return game;
    }

    private static SkirmishGrid guarding() {
        SkirmishGrid game = fighting();
        game.guard();
        return game;
    }

    private static SkirmishGrid spent() {
        SkirmishGrid game = fighting();
        game.watch();
        return game;
    }

    private static SkirmishGrid withoutGrenades() {
        SkirmishGrid game = fighting();
        game.throwAt(0);
        Check.same("an action is left", "1 0", game.unit(0, 6) + " " + game.unit(0, 5));
        return game;
    }

    private static SkirmishGrid withoutAmmunition() {
        int seed = Games.seedWhere(6, 6, 6, 1, 20, 2, 4, 1, 20, 2, 4, 1);
        SkirmishGrid game = rich("..#/.../...", seed, Games.man(0, 3, 0), Games.man(1, 2, 8));
        game.begin();
        game.attack(1);
        game.attack(1);
        for (int turn = 0; turn < 3 && game.unit(0, 6) == 0; turn++) {
            game.endTurn();
        }
        game.attack(1);
        Check.same("no ammunition, but an action", "0 1 1", game.unit(0, 4) + " " + game.unit(0, 6) + " " + game.condition());
        return game;
    }

    private static SkirmishGrid over() {
        int seed = Games.seedWhere(6, 6, 6, 1, 20, 20, 4, 4);
        SkirmishGrid game = rich("..#/.../...", seed, Games.man(0, 3, 0), Games.man(1, 3, 8));
        game.begin();
        game.attack(1);
        Check.same("the fight is over", 2, game.condition());
        return game;
    }

    /** Unit 1 is dead on the cell 4; the sniper 0 has its turn and an action. */
    private static SkirmishGrid withDead() {
        int seed = Games.seedWhere(6, 6, 6, 1, 6, 1, 20, 20, 4, 4);
        SkirmishGrid game = rich("..#/.../...", seed, Games.man(0, 3, 0), Games.man(1, 3, 4), Games.man(1, 2, 8));
        game.begin();
        game.attack(1);
        Check.same("a dead one", "0 1 1", game.unit(1, 3) + " " + game.condition() + " " + game.unit(0, 6));
        return game;
    }

    private static SkirmishGrid begun(SkirmishGrid game) {
        game.begin();
        return game;
    }

    // The refused calls.

    private static SkirmishGrid fullBuffer() {
        SkirmishGrid game = fighting();
        Games.type(game, ".".repeat(71 - 10));
        return game;
    }

    private static void appendAndLoad() {
        for (int code : new int[] {0, 10, 31, 127, 128, 255, 256 + 46, 65535}) {
            refuse(2, "code " + code, RefusalTest::fighting, game -> game.append((char) code), ARGUMENT);
            refuse(2, "code " + code + " and full", RefusalTest::fullBuffer, game -> game.append((char) code), ARGUMENT, STATE);
        }
        refuse(2, "full", RefusalTest::fullBuffer, game -> game.append('.'), STATE);
        refuse(2, "full, least code", RefusalTest::fullBuffer, game -> game.append((char) 32), STATE);
        Supplier<SkirmishGrid> plain = SkirmishGrid::new;
        refuse(4, "new", plain, game -> game.errorPosition(), ELEMENT);
        refusedLoad("malformed", ".../...x", "7", ARGUMENT);
        refusedLoad("malformed at its end", ".../...", "3", UNSUPPORTED);
        refusedLoad("too short a row at its end", ".../.../..", "10", ARGUMENT);
        refusedLoad("empty", "", "0", ARGUMENT);
        refusedLoad("malformed with too few columns", "../x", "3", ARGUMENT, UNSUPPORTED);
        refusedLoad("malformed with too many columns", "........./.........x", "19", ARGUMENT, UNSUPPORTED);
        refusedLoad("malformed with too few rows", ".../..", "6", ARGUMENT, UNSUPPORTED);
        refusedLoad("two rows", ".../...", "3", UNSUPPORTED);
        refusedLoad("two columns", "../../..", "3", UNSUPPORTED);
        refusedLoad("nine rows", ".../.../.../.../.../.../.../.../...", "3", UNSUPPORTED);
        refusedLoad("nine columns", "........./........./.........", "3", UNSUPPORTED);
    }

    /** A refused load empties the buffer, and keeps the error position of a malformed text; the rest stays. */
    @SafeVarargs
    private static void refusedLoad(String what, String text, String position, Class<? extends RuntimeException>... due) {
        seen.add("3 " + due[0].getSimpleName());
        if (due.length > 1) {
            seenPairs.add("3 " + due[0].getSimpleName() + " " + due[1].getSimpleName());
        }
        for (Function<SkirmishGrid, String> part : Probe.WITHOUT_BUFFER) {
            SkirmishGrid game = emptyBuffer();
            Games.type(game, text);
            Check.raises("3 " + what, due[0], () -> game.load(8));
            Check.same("3 the error position after " + what, position, Probe.answer(() -> game.errorPosition()));
            Check.same("3 the buffer is empty after " + what, 1, game.append('.'));
            Check.same("3 " + what + " leaves the state unchanged", part.apply(emptyBuffer()), part.apply(game));
        }
    }

    private static SkirmishGrid emptyBuffer() {
        SkirmishGrid game = fighting();
        Games.type(game, "./");
        Check.raises("a text of 12 characters", ARGUMENT, () -> game.load(1));
        Games.type(game, "...x");
        Check.raises("the error position is 3", ARGUMENT, () -> game.load(1));
        return game;
    }

    private static final int[] NO_CELLS = {-1, 30, 31, 36, 64, Integer.MIN_VALUE, Integer.MAX_VALUE};

    private static void grid() {
        int[][] places = {{-1, 0}, {0, -1}, {5, 0}, {0, 6}, {5, 6}, {-1, -1}, {-1, 6}, {0, 8}, {8, 0}, {1, -6},
            {Integer.MIN_VALUE, 0}, {0, Integer.MIN_VALUE}, {Integer.MAX_VALUE, 5}, {4, Integer.MAX_VALUE}, {1 << 30, 4}};
        for (int[] place : places) {
            refuse(5, "row " + place[0] + ", column " + place[1], RefusalTest::before,
                    game -> game.terrain(place[0], place[1]), INDEX);
        }
        for (int cell : NO_CELLS) {
            refuse(6, "cell " + cell, RefusalTest::before, game -> game.isSeen(cell, 0), INDEX);
            refuse(6, "other " + cell, RefusalTest::before, game -> game.isSeen(29, cell), INDEX);
            refuse(6, "twice " + cell, RefusalTest::before, game -> game.isSeen(cell, cell), INDEX);
            refuse(7, "cell " + cell, RefusalTest::before, game -> game.cover(cell, 0), INDEX);
            refuse(7, "other " + cell, RefusalTest::before, game -> game.cover(29, cell), INDEX);
            refuse(7, "twice " + cell, RefusalTest::before, game -> game.cover(cell, cell), INDEX);
        }
    }

    private static void addUnit() {
        for (int team : new int[] {-1, 2, Integer.MIN_VALUE, Integer.MAX_VALUE}) {
            refuse(8, "team " + team, RefusalTest::before, game -> game.addUnit(team, 0, 1), INDEX);
        }
        for (int kind : new int[] {-1, 4, Integer.MIN_VALUE, Integer.MAX_VALUE}) {
            refuse(8, "kind " + kind, RefusalTest::before, game -> game.addUnit(0, kind, 1), INDEX);
        }
        for (int cell : NO_CELLS) {
            refuse(8, "cell " + cell, RefusalTest::before, game -> game.addUnit(0, 0, cell), INDEX);
        }
        refuse(8, "wall", RefusalTest::before, game -> game.addUnit(0, 0, 2), ARGUMENT);
        refuse(8, "the other team's unit there", RefusalTest::before, game -> game.addUnit(1, 0, 0), ARGUMENT);
        refuse(8, "a unit of the own team there", RefusalTest::before, game -> game.addUnit(0, 0, 0), ARGUMENT);
        refuse(8, "the last unit's cell", RefusalTest::before, game -> game.addUnit(0, 0, 26), ARGUMENT);
        refuse(8, "begun", RefusalTest::fighting, game -> game.addUnit(0, 0, 1), STATE);
        refuse(8, "over", RefusalTest::over, game -> game.addUnit(0, 0, 1), STATE);
        refuse(8, "eight units", RefusalTest::full, game -> game.addUnit(0, 0, 17), STATE);
        refuse(8, "team first", RefusalTest::before, game -> game.addUnit(2, 0, 2), INDEX, ARGUMENT);
        refuse(8, "kind first", RefusalTest::before, game -> game.addUnit(0, 4, 0), INDEX, ARGUMENT);
        refuse(8, "team first, begun", RefusalTest::fighting, game -> game.addUnit(-1, 0, 1), INDEX, STATE);
        refuse(8, "cell first, begun", RefusalTest::fighting, game -> game.addUnit(0, 0, 30), INDEX, STATE);
        refuse(8, "kind first, eight units", RefusalTest::full, game -> game.addUnit(0, -1, 17), INDEX, STATE);
        refuse(8, "wall first, begun", RefusalTest::fighting, game -> game.addUnit(0, 0, 2), ARGUMENT, STATE);
        refuse(8, "unit first, begun", RefusalTest::fighting, game -> game.addUnit(0, 0, 6), ARGUMENT, STATE);
        refuse(8, "wall first, eight units", RefusalTest::full, game -> game.addUnit(0, 0, 2), ARGUMENT, STATE);
        refuse(8, "unit first, eight units", RefusalTest::full, game -> game.addUnit(0, 0, 8), ARGUMENT, STATE);
    }

    private static void unitAndTurns() {
        for (int unit : new int[] {-1, 4, 8, Integer.MIN_VALUE, Integer.MAX_VALUE}) {
            refuse(10, "unit " + unit, RefusalTest::fighting, game -> game.unit(unit, 0), INDEX);
            refuse(10, "unit first " + unit, RefusalTest::fighting, game -> game.unit(unit, 12), INDEX, ARGUMENT);
        }
        refuse(10, "no units", SkirmishGrid::new, game -> game.unit(0, 0), INDEX);
        for (int what : new int[] {-1, 12, Integer.MIN_VALUE, Integer.MAX_VALUE}) {
            refuse(10, "property " + what, RefusalTest::fighting, game -> game.unit(3, what), ARGUMENT);
        }
        refuse(11, "begun", RefusalTest::fighting, game -> game.begin(), STATE);
        refuse(11, "over", RefusalTest::over, game -> game.begin(), STATE);
        refuse(11, "no units", SkirmishGrid::new, game -> game.begin(), STATE);
        refuse(11, "no unit of team 0", () -> rich(GROUND, 77, Games.man(1, 0, 0)), game -> game.begin(), STATE);
        refuse(11, "no unit of team 1", () -> rich(GROUND, 77, Games.man(0, 0, 0)), game -> game.begin(), STATE);
        refuse(14, "not begun", RefusalTest::before, game -> game.current(), ELEMENT);
        refuse(14, "over", RefusalTest::over, game -> game.current(), ELEMENT);
        refuse(15, "not begun", RefusalTest::before, game -> game.order(0), ELEMENT);
        for (int index : new int[] {-1, 4, 8, Integer.MIN_VALUE, Integer.MAX_VALUE}) {
            refuse(15, "index " + index, RefusalTest::fighting, game -> game.order(index), ELEMENT);
        }
        refuse(15, "index 8 of eight", () -> begun(full()), game -> game.order(8), ELEMENT);
    }

    private static void paths() {
        for (int cell : NO_CELLS) {
            refuse(16, "cell " + cell, RefusalTest::fighting, game -> game.costs(cell), INDEX);
            refuse(16, "cell first " + cell, RefusalTest::before, game -> game.costs(cell), INDEX, UNSUPPORTED, ELEMENT);
            refuse(17, "cell " + cell, RefusalTest::fighting, game -> game.pathCell(cell, 0), INDEX);
            refuse(17, "cell first " + cell, RefusalTest::before, game -> game.pathCell(cell, -1), INDEX, UNSUPPORTED, ELEMENT);
        }
        refuse(16, "not begun", RefusalTest::before, game -> game.costs(1), UNSUPPORTED);
        refuse(16, "over", RefusalTest::over, game -> game.costs(0), UNSUPPORTED);
        refuse(16, "not begun, wall", RefusalTest::before, game -> game.costs(2), UNSUPPORTED, ELEMENT);
        refuse(16, "over, wall", RefusalTest::over, game -> game.costs(2), UNSUPPORTED, ELEMENT);
        refuse(17, "not begun", RefusalTest::before, game -> game.pathCell(1, 0), UNSUPPORTED);
        refuse(17, "not begun, no index", RefusalTest::before, game -> game.pathCell(1, -1), UNSUPPORTED, ELEMENT);
        refuse(17, "over, wall", RefusalTest::over, game -> game.pathCell(2, 0), UNSUPPORTED, ELEMENT);
        for (int cell : new int[] {2, 28, 5, 13, 26, 3}) {
            refuse(16, "no path to " + cell, RefusalTest::fighting, game -> game.costs(cell), ELEMENT);
            refuse(17, "no path to " + cell, RefusalTest::fighting, game -> game.pathCell(cell, 0), ELEMENT);
        }
        for (int index : new int[] {-1, 2, 64, Integer.MIN_VALUE, Integer.MAX_VALUE}) {
            refuse(17, "index " + index, RefusalTest::fighting, game -> game.pathCell(1, index), ELEMENT);
        }
        refuse(17, "own cell", RefusalTest::fighting, game -> game.pathCell(6, 0), ELEMENT);
    }

    private interface Attack {
        Object on(SkirmishGrid game, int unit, int target);
    }

    private static void chances(int promise, Attack call) {
        for (int unit : new int[] {-1, 4, 8, Integer.MIN_VALUE, Integer.MAX_VALUE}) {
            refuse(promise, "unit " + unit, RefusalTest::before, game -> call.on(game, unit, 1), INDEX);
            refuse(promise, "target " + unit, RefusalTest::before, game -> call.on(game, 0, unit), INDEX);
            refuse(promise, "both " + unit, RefusalTest::before, game -> call.on(game, unit, unit), INDEX);
        }
        refuse(promise, "no target and dead", RefusalTest::withDead, game -> call.on(game, 1, 3), INDEX, ARGUMENT);
        refuse(promise, "no unit and dead", RefusalTest::withDead, game -> call.on(game, -1, 1), INDEX, ARGUMENT);
        refuse(promise, "dead unit", RefusalTest::withDead, game -> call.on(game, 1, 0), ARGUMENT);
        refuse(promise, "dead target", RefusalTest::withDead, game -> call.on(game, 0, 1), ARGUMENT);
        refuse(promise, "same team", RefusalTest::withDead, game -> call.on(game, 2, 1), ARGUMENT);
        refuse(promise, "friend", RefusalTest::before, game -> call.on(game, 0, 3), ARGUMENT);
        refuse(promise, "itself", RefusalTest::before, game -> call.on(game, 0, 0), ARGUMENT);
        refuse(promise, "not seen", RefusalTest::before, game -> call.on(game, 0, 2), ARGUMENT);
        Supplier<SkirmishGrid> far = () -> rich("......../......../........", 3, Games.man(0, 0, 0), Games.man(1, 1, 6));
        refuse(promise, "too far", far, game -> call.on(game, 0, 1), ARGUMENT);
    }

    private static void bestTarget() {
        refuse(20, "not begun", () -> rich("......../......../........", 3, Games.man(0, 0, 0), Games.man(1, 1, 1)),
                game -> game.bestTarget(), UNSUPPORTED);
        refuse(20, "not begun, none", () -> rich(GROUND, 3, Games.man(0, 0, 0), Games.man(1, 1, 5)),
                game -> game.bestTarget(), UNSUPPORTED, ELEMENT);
        refuse(20, "over", RefusalTest::over, game -> game.bestTarget(), UNSUPPORTED, ELEMENT);
        refuse(20, "not seen", () -> begun(rich(GROUND, 3, Games.man(0, 0, 0), Games.man(1, 1, 5))),
                game -> game.bestTarget(), ELEMENT);
        refuse(20, "too far", () -> begun(rich("......../......../........", 3, Games.man(0, 0, 0), Games.man(1, 2, 6))),
                game -> game.bestTarget(), ELEMENT);
    }

    private static void move() {
        for (int cell : NO_CELLS) {
            refuse(21, "cell " + cell, RefusalTest::fighting, game -> game.move(cell), INDEX);
            refuse(21, "cell first " + cell, RefusalTest::before, game -> game.move(cell), INDEX, UNSUPPORTED, ARGUMENT);
            refuse(21, "cell before actions " + cell, RefusalTest::spent, game -> game.move(cell), INDEX, STATE, ARGUMENT);
        }
        refuse(21, "not begun", RefusalTest::before, game -> game.move(1), UNSUPPORTED, STATE);
        refuse(21, "over", RefusalTest::over, game -> game.move(1), UNSUPPORTED, STATE);
        refuse(21, "over, wall", RefusalTest::over, game -> game.move(2), UNSUPPORTED, STATE, ARGUMENT);
        refuse(21, "no actions", RefusalTest::spent, game -> game.move(0), STATE);
        refuse(21, "no actions, own cell", RefusalTest::spent, game -> game.move(6), STATE, ARGUMENT);
        refuse(21, "no actions, no path", RefusalTest::spent, game -> game.move(28), STATE, ARGUMENT);
        for (int cell : new int[] {6, 2, 28, 5, 13, 26, 3}) {
            refuse(21, "own cell, wall or no path " + cell, RefusalTest::fighting, game -> game.move(cell), ARGUMENT);
        }
        refuse(21, "costs 7, speed 6", () -> begun(rich("......../......../........", 3, Games.man(0, 0, 0), Games.man(1, 2, 23))),
                game -> game.move(7), ARGUMENT);
    }

    private static void attack() {
        for (int unit : new int[] {-1, 4, 8, Integer.MIN_VALUE, Integer.MAX_VALUE}) {
            refuse(22, "unit " + unit, RefusalTest::fighting, game -> game.attack(unit), INDEX);
            refuse(22, "unit first " + unit, RefusalTest::before, game -> game.attack(unit), INDEX, UNSUPPORTED, ARGUMENT);
            refuse(22, "unit before actions " + unit, RefusalTest::spent, game -> game.attack(unit), INDEX, STATE, ARGUMENT);
        }
        refuse(22, "not begun", RefusalTest::before, game -> game.attack(1), UNSUPPORTED, STATE);
        refuse(22, "over, dead", RefusalTest::over, game -> game.attack(1), UNSUPPORTED, STATE, ARGUMENT);
        refuse(22, "no actions", RefusalTest::spent, game -> game.attack(1), STATE);
        refuse(22, "no actions, friend", RefusalTest::spent, game -> game.attack(3), STATE, ARGUMENT);
        refuse(22, "no ammunition", RefusalTest::withoutAmmunition, game -> game.attack(1), STATE);
        refuse(22, "no ammunition, itself", RefusalTest::withoutAmmunition, game -> game.attack(0), STATE, ARGUMENT);
        refuse(22, "itself", RefusalTest::fighting, game -> game.attack(0), ARGUMENT);
        refuse(22, "friend", RefusalTest::fighting, game -> game.attack(3), ARGUMENT);
        refuse(22, "not seen", RefusalTest::fighting, game -> game.attack(2), ARGUMENT);
        refuse(22, "dead", RefusalTest::withDead, game -> game.attack(1), ARGUMENT);
        refuse(22, "too far", () -> begun(rich("......../......../........", 3, Games.man(0, 0, 0), Games.man(1, 2, 6))),
                game -> game.attack(1), ARGUMENT);
    }

    private static void throwAt() {
        for (int cell : NO_CELLS) {
            refuse(23, "cell " + cell, RefusalTest::fighting, game -> game.throwAt(cell), INDEX);
            refuse(23, "cell first " + cell, RefusalTest::before, game -> game.throwAt(cell), INDEX, UNSUPPORTED, ARGUMENT);
            refuse(23, "cell before actions " + cell, RefusalTest::spent, game -> game.throwAt(cell), INDEX, STATE, ARGUMENT);
        }
        refuse(23, "not begun", RefusalTest::before, game -> game.throwAt(1), UNSUPPORTED, STATE);
        refuse(23, "over", RefusalTest::over, game -> game.throwAt(1), UNSUPPORTED, STATE);
        refuse(23, "over, wall", RefusalTest::over, game -> game.throwAt(2), UNSUPPORTED, STATE, ARGUMENT);
        refuse(23, "no actions", RefusalTest::spent, game -> game.throwAt(12), STATE);
        refuse(23, "no actions, wall", RefusalTest::spent, game -> game.throwAt(2), STATE, ARGUMENT);
        refuse(23, "no grenades", RefusalTest::withoutGrenades, game -> game.throwAt(12), STATE);
        refuse(23, "no grenades, wall", RefusalTest::withoutGrenades, game -> game.throwAt(2), STATE, ARGUMENT);
        refuse(23, "a sniper", RefusalTest::withDead, game -> game.throwAt(4), STATE);
        refuse(23, "wall that is seen", RefusalTest::fighting, game -> game.throwAt(8), ARGUMENT);
        refuse(23, "not seen", RefusalTest::fighting, game -> game.throwAt(9), ARGUMENT);
        refuse(23, "distance 5", () -> begun(rich("......../......../........", 3, Games.man(0, 0, 0), Games.man(1, 2, 23))),
                game -> game.throwAt(5), ARGUMENT);
    }

    private static void otherCommands() {
        List<Function<SkirmishGrid, Object>> calls = List.of(game -> game.guard(), game -> game.watch(), game -> game.reload(),
                game -> game.endTurn());
        for (int i = 0; i < 4; i++) {
            refuse(24 + i, "not begun", RefusalTest::before, calls.get(i), UNSUPPORTED);
            refuse(24 + i, "new", SkirmishGrid::new, calls.get(i), UNSUPPORTED);
            refuse(24 + i, "over", RefusalTest::over, calls.get(i), UNSUPPORTED);
        }
        for (int i = 0; i < 3; i++) {
            refuse(24 + i, "over, no actions", RefusalTest::over, calls.get(i), UNSUPPORTED, STATE);
            refuse(24 + i, "no actions", RefusalTest::spent, calls.get(i), STATE);
        }
        refuse(24, "guards", RefusalTest::guarding, game -> game.guard(), STATE);
        refuse(25, "no ammunition", RefusalTest::withoutAmmunition, game -> game.watch(), STATE);
    }

    private static SkirmishGrid undone() {
        SkirmishGrid game = fighting();
        for (int i = 0; i < 6; i++) {
            game.undo();
        }
        return game;
    }

    private static SkirmishGrid undoneEight() {
        SkirmishGrid game = fighting();
        for (int i = 0; i < 5; i++) {
            game.endTurn();
        }
        for (int i = 0; i < 8; i++) {
            game.undo();
        }
        Check.same("three commands that cannot be undone", 3, game.commandCount());
        return game;
    }

    private static void eventsAndUndo() {
        for (int index : new int[] {-1, 3, 40, Integer.MIN_VALUE, Integer.MAX_VALUE}) {
            refuse(29, "index " + index, RefusalTest::fighting, game -> game.event(index, 0), INDEX);
        }
        for (int column : new int[] {-1, 3, Integer.MIN_VALUE, Integer.MAX_VALUE}) {
            refuse(29, "column " + column, RefusalTest::fighting, game -> game.event(0, column), INDEX);
        }
        refuse(29, "none", RefusalTest::before, game -> game.event(0, 0), INDEX);
        refuse(31, "not begun", RefusalTest::before, game -> game.undo(), STATE);
        refuse(31, "begun only", () -> begun(before()), game -> game.undo(), STATE);
        refuse(31, "all undone", RefusalTest::undone, game -> game.undo(), STATE);
        refuse(31, "eight undone", RefusalTest::undoneEight, game -> game.undo(), STATE);
        refuse(31, "restored", () -> {
            SkirmishGrid game = fighting();
            game.snapshot();
            game.endTurn();
            game.restore();
            return game;
        }, game -> game.undo(), STATE);
        refuse(32, "not begun", RefusalTest::before, game -> game.isReplayed(), STATE);
        refuse(32, "new", SkirmishGrid::new, game -> game.isReplayed(), STATE);
    }

    /** One row, or both with five and four elements, as ints or as floats. */
    private static SkirmishGrid stored(Boolean first, Boolean second) {
        SkirmishGrid game = Games.with(new SkirmishGrid(), Games.man(0, 0, 0), Games.man(1, 1, 1), Games.man(0, 2, 2), Games.man(1, 3, 3));
        if (second != null) {
            game.storeHealths(1, second);
        }
        game.addUnit(0, 3, 4);
        if (first != null) {
            game.storeHealths(0, first);
        }
        return game;
    }

    private static void rows() {
        int[] wrong = {-1, 2, Integer.MIN_VALUE, Integer.MAX_VALUE};
        for (int team : wrong) {
            refuse(33, "team " + team, RefusalTest::fighting, game -> game.meanHealth(team), INDEX);
            refuse(33, "team first " + team, SkirmishGrid::new, game -> game.meanHealth(team), INDEX, ARITHMETIC);
        }
        for (int team = 0; team < 2; team++) {
            int asked = team;
            refuse(33, "no units", SkirmishGrid::new, game -> game.meanHealth(asked), ARITHMETIC);
            refuse(33, "only others", () -> Games.with(new SkirmishGrid(), Games.man(1 - asked, 0, 0)),
                    game -> game.meanHealth(asked), ARITHMETIC);
        }
        for (int row : wrong) {
            refuse(34, "row " + row, RefusalTest::fighting, game -> game.storeHealths(row, true), INDEX);
            refuse(34, "row " + row + " of floats", RefusalTest::fighting, game -> game.storeHealths(row, false), INDEX);
            refuse(35, "row " + row, () -> stored(true, true), game -> game.copyHealths(row, 1), INDEX);
            refuse(35, "row first " + row, () -> stored(true, null), game -> game.copyHealths(row, -1), INDEX, ELEMENT, ARGUMENT);
            refuse(35, "row before types " + row, () -> stored(true, false), game -> game.copyHealths(row, -1), INDEX,
                    UNSUPPORTED, ARGUMENT);
            refuse(36, "row " + row, () -> stored(true, true), game -> game.storedBits(row, 0), INDEX);
            refuse(36, "row first " + row, () -> stored(true, true), game -> game.storedBits(row, 9), INDEX, ELEMENT);
        }
        for (int from = 0; from < 2; from++) {
            int row = from;
            refuse(35, "none is stored", SkirmishGrid::new, game -> game.copyHealths(row, 0), ELEMENT);
            refuse(35, "only row 0 is stored", () -> stored(true, null), game -> game.copyHealths(row, 0), ELEMENT);
            refuse(35, "only row 1 is stored", () -> stored(null, false), game -> game.copyHealths(row, 0), ELEMENT);
            refuse(35, "stored first", () -> stored(null, false), game -> game.copyHealths(row, -1), ELEMENT, ARGUMENT);
            refuse(35, "types", () -> stored(true, false), game -> game.copyHealths(row, 0), UNSUPPORTED);
            refuse(35, "types, the other way", () -> stored(false, true), game -> game.copyHealths(row, 1), UNSUPPORTED);
            for (int count : new int[] {-1, 5, 6, Integer.MIN_VALUE, Integer.MAX_VALUE}) {
                refuse(35, "count " + count, () -> stored(true, true), game -> game.copyHealths(row, count), ARGUMENT);
                refuse(35, "count of floats " + count, () -> stored(false, false), game -> game.copyHealths(row, count), ARGUMENT);
                refuse(35, "types first " + count, () -> stored(true, false), game -> game.copyHealths(row, count), UNSUPPORTED, ARGUMENT);
            }
        }
        refuse(36, "row 0 not stored", () -> stored(null, true), game -> game.storedBits(0, 0), ELEMENT);
        refuse(36, "row 1 not stored", () -> stored(true, null), game -> game.storedBits(1, 0), ELEMENT);
        for (int index : new int[] {-1, 5, 8, Integer.MIN_VALUE, Integer.MAX_VALUE}) {
            refuse(36, "index " + index, () -> stored(true, true), game -> game.storedBits(0, index), ELEMENT);
        }
        refuse(36, "the shorter row", () -> stored(true, false), game -> game.storedBits(1, 4), ELEMENT);
    }

    private static void restore() {
        refuse(38, "new", SkirmishGrid::new, game -> game.restore(), STATE);
        refuse(38, "no snapshot in a fight", () -> begun(stored(true, false)), game -> game.restore(), STATE);
    }
}
