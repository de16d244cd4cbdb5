import java.math.BigInteger;
import java.util.NoSuchElementException;

/**
 * The document's Description up to "Cover", and its sections "Text" and "Exceptions", sentence by sentence: what
 * happens at each boundary that a sentence names. FightBoundaryTest goes on with attacks, and RefusalTest has
 * the refused calls.
 */
public final class BoundaryTest {
    private static final int[] HEALTH = {8, 12, 18, 7};
    private static final int[] RANGE = {5, 6, 4, 8};
    private static final int[] SPEED = {6, 4, 3, 3};
    private static final int[] INITIATIVE = {8, 5, 2, 6};
    private static final int[] AMMUNITION = {6, 5, 4, 3};
    private static final int[] GRENADES = {1, 1, 1, 0};
    private static final String WIDE = "......../......../........";

    public static void main(String[] arguments) {
        calls();
        newSkirmish();
        sizes();
        cells();
        neighbors();
        distance();
        unitLimit();
        fullSkirmish();
        kinds();
        lives();
        deadUnits();
        dice();
        rolls();
        turnsOfTheRound();
        beginningOfATurn();
        burningAtTheBeginning();
        stunnedAtTheBeginning();
        endOfATurn();
        turnsOfTheDead();
        endOfTheFight();
        sight();
        cover();
        buffer();
        text();
        errorPosition();
        lastErrorPosition();
        startsAnew();
        oldUnits();
        Check.finish();
    }

    private static void until(SkirmishGrid game, int unit) {
        for (int turn = 0; turn < 9 && game.current() != unit; turn++) {
            game.endTurn();
        }
    }

    // What it is, and what a new one is.

    private static void calls() {
        Doc.says("An object is used for at most 512 calls after it has been made; what later calls answer is free.");
        SkirmishGrid game = Games.with(new SkirmishGrid(), Games.man(0, 0, 0), Games.man(1, 2, 24));
        game.begin();
        for (int call = 4; call < 508; call++) {
            game.endTurn();
        }
        Doc.due("call 508, after 504 commands", 504, game.commandCount());
        Doc.due("call 509", 1 + 252, game.round());
        Doc.due("call 510", 1 + 252, game.event(39, 2));
        Doc.due("call 511", 7, game.undo());
        Doc.due("call 512", true, game.isReplayed());
        SkirmishGrid full = Games.with(new SkirmishGrid(), Games.man(0, 0, 0), Games.man(1, 2, 24));
        full.begin();
        for (int call = 4; call < 512; call++) {
            full.endTurn();
        }
        Doc.due("call 512, after 508 commands", true, full.isReplayed());
    }

    private static void newSkirmish() {
        Doc.says("A new skirmish has a grid of 5 rows and 5 columns with open cells, no units, and the seed 1; the fight has not begun.");
        SkirmishGrid game = new SkirmishGrid();
        for (int cell = 0; cell < 25; cell++) {
            Doc.due("cell " + cell, '.', game.terrain(cell / 5, cell % 5));
        }
        Doc.raises("row 5", IndexOutOfBoundsException.class, () -> game.terrain(5, 4));
        Doc.raises("column 5", IndexOutOfBoundsException.class, () -> game.terrain(4, 5));
        Doc.due("units", 0, game.unitCount());
        Doc.due("condition", 0, game.condition());
        Doc.due("round", 0, game.round());
        Games.with(game, Games.man(0, 0, 0), Games.man(1, 0, 24));
        game.begin();
        Doc.due("the seed's first die", 8 + die(1, 1, 6), game.unit(0, 7));
        Doc.due("the seed's second die", 8 + die(1, 2, 6), game.unit(1, 7));
    }

    // The grid.

    private static void sizes() {
        Doc.says("The grid has 3 to 8 rows and 3 to 8 columns");
        for (int rows = 1; rows <= 36; rows++) {
            for (int columns = 1; rows * (columns + 1) - 1 <= 71; columns++) {
                String what = rows + " rows and " + columns + " columns";
                SkirmishGrid game = new SkirmishGrid();
                Games.type(game, ("/" + ".".repeat(columns)).repeat(rows).substring(1));
                if (rows < 3 || rows > 8 || columns < 3 || columns > 8) {
                    Doc.raises(what, UnsupportedOperationException.class, () -> game.load(1));
                    Doc.due("the old grid after " + what, '.', game.terrain(4, 4));
                    continue;
                }
                Doc.due(what, 10 * rows + columns, game.load(1));
                Doc.due(what + ", the last cell", '.', game.terrain(rows - 1, columns - 1));
                int end = rows;
                int side = columns;
                Doc.raises(what + ", one row more", IndexOutOfBoundsException.class, () -> game.terrain(end, 0));
                Doc.raises(what + ", one column more", IndexOutOfBoundsException.class, () -> game.terrain(0, side));
                Doc.due(what + ", the last number", true, game.isSeen(rows * columns - 1, 0));
                Doc.raises(what + ", one number more", IndexOutOfBoundsException.class, () -> game.isSeen(end * side, 0));
            }
        }
    }

    private static void cells() {
        Doc.says("rows are numbered from 0 at the top, columns from 0 at the left. The number of a cell is its row times the"
                + " number of columns plus its column.");
        SkirmishGrid game = Games.on("...#/.#../#...", 1);
        Doc.due("row 0, column 3", '#', game.terrain(0, 3));
        Doc.due("row 2, column 0", '#', game.terrain(2, 0));
        for (int cell = 0; cell < 12; cell++) {
            int number = cell;
            if (cell == 3 || cell == 5 || cell == 8) {
                Doc.raises("a wall is cell " + cell, IllegalArgumentException.class, () -> game.addUnit(0, 0, number));
            }
        }
        Doc.due("row 1, column 3 is cell 7", 0, game.addUnit(0, 0, 7));
        Doc.says("Each cell is open (0), a wall (1), a barrier (2), mud (3), or fire (4).");
        SkirmishGrid all = Games.on(".#o~^/...../.....", 1);
        for (int cell = 0; cell < 5; cell++) {
            Doc.due("cell " + cell, ".#o~^".charAt(cell), all.terrain(0, cell));
        }
    }

    private static void neighbors() {
        Doc.says("Neighbors of a cell are the cells above it, to the right of it, below it and to the left of it.");
        SkirmishGrid game = Games.with(Games.on(".../.../...", 1), Games.man(0, 0, 2), Games.man(1, 2, 8));
        game.begin();
        Doc.due("no step from the end of a row to the next row", 3, game.costs(3));
        Doc.due("no diagonal step", 2, game.costs(4));
        SkirmishGrid start = Games.with(Games.on(".../.../...", 1), Games.man(0, 0, 3), Games.man(1, 2, 8));
        start.begin();
        Doc.due("nor back", 3, start.costs(2));
        Doc.due("none above the first row", 3, start.costs(7) + start.costs(0));
        SkirmishGrid shut = Games.with(Games.on("..#/#../...", 1), Games.man(0, 0, 0), Games.man(1, 2, 8));
        shut.begin();
        Doc.due("around", 2, shut.costs(4));
        Doc.due("cover does not go round the row's end either", 0, shut.cover(2, 0));
        Doc.due("nor at the row's beginning", 0, Games.on("..#/.../...", 1).cover(3, 5));
    }

    private static void distance() {
        Doc.says("The distance of two cells is the greater one of the differences of their rows and of their columns.");
        SkirmishGrid game = Games.with(Games.on("......../......../......../......../......../......../........", 1),
                Games.man(0, 0, 0), Games.man(1, 0, 5 * 8 + 5), Games.man(1, 0, 6 * 8), Games.man(1, 0, 5 * 8),
                Games.man(1, 0, 5), Games.man(1, 0, 6), Games.man(1, 0, 3 * 8 + 5), Games.man(1, 0, 5 * 8 + 6));
        Doc.due("5 and 5 are 5", 12 / 20.0, game.chance(0, 1));
        Doc.raises("6 rows are 6", IllegalArgumentException.class, () -> game.chance(0, 2));
        Doc.due("5 rows are 5", 12 / 20.0, game.chance(0, 3));
        Doc.due("5 columns are 5", 12 / 20.0, game.chance(0, 4));
        Doc.raises("6 columns are 6", IllegalArgumentException.class, () -> game.chance(0, 5));
        Doc.due("3 and 5 are 5", 12 / 20.0, game.chance(6, 0));
        Doc.raises("5 and 6 are 6", IllegalArgumentException.class, () -> game.chance(7, 0));
    }

    // Units.

    private static void unitLimit() {
        Doc.says("There are at most 8 units, numbered from 0 in the order in which they were added.");
        SkirmishGrid game = new SkirmishGrid();
        for (int unit = 0; unit < 8; unit++) {
            Doc.due("unit " + unit, unit, game.addUnit(unit % 2, unit % 4, 24 - unit));
        }
        Doc.raises("unit 8", IllegalStateException.class, () -> game.addUnit(0, 0, 0));
        for (int unit = 0; unit < 8; unit++) {
            Doc.due("cell of unit " + unit, 24 - unit, game.unit(unit, 2));
        }
        game.begin();
        StringBuilder ordered = new StringBuilder();
        for (int index = 0; index < 8; index++) {
            ordered.append(game.order(index));
        }
        Doc.due("all eight are in the order", "01234567", sorted(ordered.toString()));
        Doc.says("A unit belongs to team 0 or team 1, is on a cell that is no wall, and no two living units are on the same cell.");
        SkirmishGrid grounds = Games.on(".#o~^/...../.....", 1);
        Doc.raises("a wall", IllegalArgumentException.class, () -> grounds.addUnit(0, 0, 1));
        Doc.due("open, barrier, mud and fire", 0 + 1 + 2 + 3, grounds.addUnit(0, 0, 0) + grounds.addUnit(1, 0, 2)
                + grounds.addUnit(0, 0, 3) + grounds.addUnit(1, 0, 4));
        Doc.raises("a cell of the same team", IllegalArgumentException.class, () -> grounds.addUnit(0, 0, 0));
        Doc.raises("a cell of the other team", IllegalArgumentException.class, () -> grounds.addUnit(0, 0, 2));
        grounds.begin();
        Doc.raises("no move onto a friend", IllegalArgumentException.class, () -> grounds.move(grounds.current() == 0 ? 3 : 0));
    }

    /** Everything is at its greatest here: 64 cells, 8 units, the last of which is alone in its team. */
    private static void fullSkirmish() {
        Doc.says("There are at most 8 units, numbered from 0 in the order in which they were added.");
        String row = "........";
        SkirmishGrid game = Games.on(String.join("/", row, row, row, row, row, row, row, row), 9);
        for (int unit = 0; unit < 7; unit++) {
            game.addUnit(0, 2, unit);
        }
        game.addUnit(1, 0, 48);
        Doc.due("the scout is first", 7, game.begin());
        Doc.due("goes on while unit 7 lives", 1, game.condition());
        Doc.due("costs to the last cell", 8, game.costs(63));
        Doc.due("path to the last cell", "49 63", game.pathCell(63, 0) + " " + game.pathCell(63, 7));
        Doc.raises("index 8", NoSuchElementException.class, () -> game.pathCell(63, 8));
        Doc.due("last place of the order", true, game.order(7) < 7);
        Doc.raises("place 8", NoSuchElementException.class, () -> game.order(8));
        Doc.raises("all too far", NoSuchElementException.class, () -> game.bestTarget());
        Doc.due("a grenade for unit 7 alone", 1, game.throwAt(57));
        game.watch();
        game.endTurn();
        until(game, 0);
        Doc.due("to the distance 5", 8, game.move(8));
        Doc.due("unit 7 reacts", "7,7,0", Games.events(game).replaceAll(".* (7,.,.) .*", "$1"));
        Doc.due("replayed", true, game.isReplayed());
        Doc.due("rows of 8", 16, game.storeHealths(0, true) + game.storeHealths(1, true));
        Doc.due("the last element", Float.floatToIntBits(5.0f), game.storedBits(0, 7));
        Doc.due("all 8 are the same", false, game.copyHealths(0, 8));
        Doc.due("mean health of one", 5.0f, game.meanHealth(1));
        String state = Games.state(game);
        Doc.due("snapshot of 8", 8, game.snapshot());
        game.endTurn();
        game.undo();
        Doc.due("after undo", state, Games.state(game));
        game.endTurn();
        Doc.due("restore of 8", 8, game.restore());
        Doc.due("after restore", state, Games.state(game));
    }

    private static String sorted(String text) {
        char[] signs = text.toCharArray();
        java.util.Arrays.sort(signs);
        return new String(signs);
    }

    private static void kinds() {
        Doc.says("kind 0, scout: health 8, armor 0, aim 4, range 5, speed 6, initiative 8, power 2, ammunition 6, grenades 1 kind 1,"
                + " soldier: health 12, armor 1, aim 5, range 6, speed 4, initiative 5, power 3, ammunition 5, grenades 1 kind 2,"
                + " heavy: health 18, armor 3, aim 3, range 4, speed 3, initiative 2, power 5, ammunition 4, grenades 1 kind 3,"
                + " sniper: health 7, armor 0, aim 9, range 8, speed 3, initiative 6, power 4, ammunition 3, grenades 0"
                + " Health, ammunition and grenades are the numbers at the beginning.");
        int seed = Games.seedWhere(6, 6, 6, 1);
        for (int kind = 0; kind < 4; kind++) {
            String what = "kind " + kind + " ";
            SkirmishGrid game = Games.with(Games.on(WIDE, seed), Games.man(0, kind, 0), Games.man(1, 2, 23));
            Doc.due(what + "health", HEALTH[kind], game.unit(0, 3));
            Doc.due(what + "ammunition", AMMUNITION[kind], game.unit(0, 4));
            Doc.due(what + "grenades", GRENADES[kind], game.unit(0, 5));
            Doc.due(what + "first", 0, game.begin());
            Doc.due(what + "initiative", 6 + INITIATIVE[kind], game.unit(0, 7));
            int speed = SPEED[kind];
            Doc.raises(what + "beyond its speed", IllegalArgumentException.class, () -> game.move(speed + 1));
            Doc.due(what + "as far as its speed", speed, game.move(speed));
            for (int column = 1; column < 8; column++) {
                SkirmishGrid range = Games.with(Games.on(WIDE, 1), Games.man(0, kind, 0), Games.man(1, 2, column));
                if (column <= RANGE[kind]) {
                    Doc.due(what + "at " + column, true, range.chance(0, 1) > 0);
                } else {
                    Doc.raises(what + "at " + column, IllegalArgumentException.class, () -> range.chance(0, 1));
                }
            }
        }
    }

    /** A soldier is first and hits a sniper of 7 health with 15 and this second result, for 3 more than that. */
    private static SkirmishGrid hitSniper(int second) {
        SkirmishGrid game = Games.with(Games.on(".../.../...", Games.seedWhere(6, 6, 6, 1, 6, 1, 20, 15, 4, second)),
                Games.man(0, 1, 0), Games.man(1, 2, 2), Games.man(1, 3, 8));
        until(begun(game), 0);
        game.attack(2);
        return game;
    }

    private static SkirmishGrid begun(SkirmishGrid game) {
        game.begin();
        return game;
    }

    private static void lives() {
        Doc.says("A unit lives as long as its health is greater than 0.");
        SkirmishGrid weak = hitSniper(3);
        Doc.due("health 1", 1, weak.unit(2, 3));
        Doc.due("it can be attacked with health 1", true, weak.chance(0, 2) > 0 && weak.chance(2, 0) > 0);
        Doc.raises("it is in the way with health 1", IllegalArgumentException.class, () -> weak.move(8));
        SkirmishGrid dead = hitSniper(4);
        Doc.due("health 0", 0, dead.unit(2, 3));
        Doc.raises("it cannot be attacked with health 0", IllegalArgumentException.class, () -> dead.chance(0, 2));
        Doc.raises("nor attack", IllegalArgumentException.class, () -> dead.meanDamage(2, 0));
        Doc.due("event 4", 4, dead.event(dead.eventCount() - 1, 0));
        Doc.due("no event 4 with health 1", 2, weak.event(weak.eventCount() - 1, 0));
    }

    private static void deadUnits() {
        Doc.says("Units that do not live stay on their cells, but are in nobody's way.");
        SkirmishGrid game = hitSniper(4);
        Doc.due("its cell", 8, game.unit(2, 2));
        Doc.due("its cell can be entered", 4, game.costs(8));
        Doc.due("by a move", 8, game.move(8));
        Doc.due("two units are there now", 16, game.unit(0, 2) + game.unit(2, 2));
        SkirmishGrid past = Games.with(Games.on("..o/#.#/...", Games.seedWhere(6, 6, 6, 1, 6, 1, 20, 20, 4, 4)), Games.man(0, 3, 1),
                Games.man(1, 2, 0), Games.man(1, 3, 4));
        until(begun(past), 0);
        Doc.raises("no way past a living unit", NoSuchElementException.class, () -> past.costs(7));
        past.attack(2);
        Doc.due("a way past a dead one", 2, past.costs(7));
        Doc.due("over its cell", 4, past.pathCell(7, 0));
    }

    // Dice, rounds and turns.

    /** The document's die in numbers without overflow. */
    private static int die(int seed, int times, int sides) {
        BigInteger modulus = BigInteger.ONE.shiftLeft(32);
        BigInteger z = BigInteger.valueOf(seed).mod(modulus);
        for (int time = 0; time < times; time++) {
            z = z.multiply(BigInteger.valueOf(1103515245)).add(BigInteger.valueOf(12345)).mod(modulus);
        }
        return z.shiftRight(16).mod(BigInteger.valueOf(sides)).intValue() + 1;
    }

    private static void dice() {
        Doc.says("A value z is the seed at first. To roll a die with n sides, z becomes z * 1103515245 + 12345, with overflow,"
                + " and the result is (z >>> 16) % n + 1.");
        for (int seed : new int[] {0, 1, -1, 2, -2, 12345, Integer.MIN_VALUE, Integer.MAX_VALUE, Integer.MIN_VALUE + 1, 1 << 30, 0xABCDEF01}) {
            SkirmishGrid game = Games.with(Games.on("....../....../......", seed), Games.man(0, 0, 0), Games.man(1, 0, 1), Games.man(0, 0, 2),
                    Games.man(1, 0, 3), Games.man(0, 0, 4), Games.man(1, 0, 5), Games.man(0, 0, 6), Games.man(1, 0, 7));
            game.begin();
            for (int unit = 0; unit < 8; unit++) {
                Doc.due("seed " + seed + ", die " + (unit + 1), 8 + die(seed, unit + 1, 6), game.unit(unit, 7));
            }
        }
    }

    private static void rolls() {
        Doc.says("When the fight begins, and whenever all units of a round have had their turns, a round begins: each living unit,"
                + " in ascending order of the numbers, rolls a die with 6 sides, and its roll is the result plus its initiative.");
        SkirmishGrid dead = Games.with(Games.on(".../.../...", Games.seedWhere(6, 6, 6, 1, 6, 1, 20, 20, 4, 4, 6, 2, 6, 5)),
                Games.man(0, 3, 0), Games.man(1, 3, 1), Games.man(1, 2, 8));
        until(begun(dead), 0);
        dead.attack(1);
        Doc.due("round 1 until the last turn", 2, dead.endTurn());
        Doc.due("still round 1", 1, dead.round());
        dead.endTurn();
        Doc.due("round 2 after it", 2, dead.round());
        Doc.due("roll of the first living unit", 6 + 2, dead.unit(0, 7));
        Doc.due("the dead one rolls no die", 2 + 5, dead.unit(2, 7));
        Doc.due("and has no roll in this round", 0, dead.unit(1, 7));
        Doc.says("The order of the round has these units by descending rolls, those with the same roll by ascending numbers.");
        // Rolls 9, 9, 10, 9: a scout's 8 + 1, soldiers' 5 + 4, 5 + 5 and 5 + 4.
        SkirmishGrid equal = Games.with(Games.on(".../.../...", Games.seedWhere(6, 1, 6, 4, 6, 5, 6, 4)),
                Games.man(0, 0, 0), Games.man(1, 1, 1), Games.man(0, 1, 2), Games.man(1, 1, 3));
        equal.begin();
        Doc.due("rolls 9, 9, 10, 9", "2013", "" + equal.order(0) + equal.order(1) + equal.order(2) + equal.order(3));
    }

    private static void turnsOfTheRound() {
        Doc.says("Then each of them has a turn in this order, except those that do not live any more.");
        // Rolls 12, 9 and 7: the last one of the order dies, so that the next round follows the second turn.
        SkirmishGrid last = Games.with(Games.on(".../.../...", Games.seedWhere(6, 6, 6, 1, 6, 1, 20, 20, 4, 4)),
                Games.man(0, 3, 0), Games.man(1, 0, 1), Games.man(1, 3, 8));
        Doc.due("first", 0, last.begin());
        last.attack(2);
        Doc.due("second", 1, last.endTurn());
        Doc.due("the dead one is still in the order", 2, last.order(2));
        last.endTurn();
        Doc.due("the dead one at the end gets no turn", 2, last.round());
        Doc.raises("nor a place in the next order", NoSuchElementException.class, () -> last.order(2));
        // Rolls 12, 11 and 3: the one in the middle dies.
        SkirmishGrid middle = Games.with(Games.on(".../.../...", Games.seedWhere(6, 6, 6, 5, 6, 1, 20, 20, 4, 4)),
                Games.man(0, 3, 0), Games.man(1, 3, 1), Games.man(1, 2, 8));
        middle.begin();
        middle.attack(1);
        Doc.due("the dead one in the middle gets no turn", 2, middle.endTurn());
        Doc.due("in the same round", 1, middle.round());
        Doc.due("it has died once", "9,-1,1 2,0,16 4,1,0", Games.events(middle));
        // It guards and burns since round 1, and dies in round 2 before its turn, which would stop the guard.
        SkirmishGrid guarding = Games.with(Games.on(".^./.../...", Games.seedWhere(6, 6, 6, 5, 6, 1, 6, 6, 6, 5, 6, 1, 20, 20, 4, 4)),
                Games.man(0, 3, 0), Games.man(1, 3, 2), Games.man(1, 2, 8));
        guarding.begin();
        guarding.endTurn();
        guarding.move(1);
        guarding.guard();
        guarding.endTurn();
        guarding.endTurn();
        guarding.attack(1);
        Doc.due("the dead one gets no turn in round 2", 2, guarding.endTurn());
        Doc.due("it does not burn, and its guard does not stop", "9,-1,1 1,1,1 9,-1,2 2,0,16 4,1,0 | 1 1", Games.events(guarding) + " | "
                + guarding.unit(1, 9) + " " + guarding.unit(1, 10));
    }

    private static void beginningOfATurn() {
        Doc.says("At the beginning of its turn, a unit that guards or watches stops that;");
        SkirmishGrid game = Games.with(Games.on(".../.../...", 1), Games.man(0, 0, 0), Games.man(1, 2, 8));
        game.begin();
        game.guard();
        game.watch();
        Doc.due("both until its turn ends", "11", "" + game.unit(0, 10) + game.unit(0, 11));
        game.endTurn();
        Doc.due("both in the other's turn", "11", "" + game.unit(0, 10) + game.unit(0, 11));
        game.endTurn();
        Doc.due("none in its next turn", "00", "" + game.unit(0, 10) + game.unit(0, 11));
        Doc.says("and if it lives, it gets 2 actions, or none if it is stunned.");
        Doc.due("2 actions", 2, game.unit(0, 6));
        Doc.due("none in the other's turn", 0, game.unit(1, 6));
    }

    /** A sniper goes through fire, a soldier takes 3 more than this result of its 7 health, and round 2 begins. */
    private static SkirmishGrid burnt(int second) {
        int seed = Games.seedWhere(6, 6, 6, 1, 20, 15, 4, second, 6, 6, 6, 1);
        SkirmishGrid game = Games.with(Games.on(".^./.../...", seed), Games.man(0, 3, 0), Games.man(1, 1, 5));
        game.begin();
        game.move(1);
        game.endTurn();
        game.attack(0);
        Doc.due("its health before", 4 - second, game.unit(0, 3));
        game.endTurn();
        return game;
    }

    private static void burningAtTheBeginning() {
        Doc.says("if it is burning, its health decreases by 2, but not below 0;");
        SkirmishGrid three = burnt(1);
        Doc.due("3 become 1", 1, three.unit(0, 3));
        Doc.due("it has its turn with 1", "0 2", three.current() + " " + three.unit(0, 6));
        SkirmishGrid two = burnt(2);
        Doc.due("2 become 0", 0, two.unit(0, 3));
        Doc.due("2 are too few", 3, two.condition());
        SkirmishGrid one = burnt(3);
        Doc.due("1 becomes 0", 0, one.unit(0, 3));
        Doc.due("the event's number is 2 all the same", "9,-1,1 1,0,1 2,1,6 9,-1,2 5,0,2 4,0,0", Games.events(one));
        Doc.says("A unit is stunned (0) or burning (1) as long as the duration of this status is greater than 0.");
        Doc.due("burning with the duration 1", 1, three.unit(0, 9));
        three.endTurn();
        Doc.due("its duration is 0 then", 0, three.unit(0, 9));
        until(three, 1);
        three.endTurn();
        until(three, 0);
        Doc.due("no more burning with the duration 0", 1, three.unit(0, 3));
        Doc.says("If it does not live any more, the turn goes to the next unit.");
        SkirmishGrid burns = Games.with(Games.on(".^./.../...", Games.seedWhere(6, 6, 6, 1, 6, 1, 20, 15, 4, 3, 6, 6, 6, 1, 6, 6)),
                Games.man(0, 3, 0), Games.man(1, 1, 5), Games.man(0, 2, 6));
        burns.begin();
        burns.move(1);
        burns.endTurn();
        burns.attack(0);
        burns.endTurn();
        Doc.due("the heavy of roll 8 comes after the dead sniper", 2, burns.endTurn());
        Doc.due("it has 2 actions", 2, burns.unit(2, 6));
        Doc.due("the sniper was first in the order", 0, burns.order(0));
    }

    private static SkirmishGrid stunnedHeavy(int result) {
        SkirmishGrid game = Games.with(Games.on(".../.../...", Games.seedWhere(6, 6, 6, 1, 6, result)), Games.man(0, 0, 0), Games.man(1, 2, 8));
        game.begin();
        game.throwAt(8);
        return game;
    }

    private static void stunnedAtTheBeginning() {
        Doc.says("and if it lives, it gets 2 actions, or none if it is stunned.");
        SkirmishGrid stunned = stunnedHeavy(5);
        Doc.due("stunned", 1, stunned.unit(1, 8));
        Doc.due("it has its turn", 1, stunned.endTurn());
        Doc.due("with no actions", 0, stunned.unit(1, 6));
        stunned.endTurn();
        Doc.due("at the end of its turn 1 becomes 0", 0, stunned.unit(1, 8));
        Doc.due("then it is its turn again", 1, stunned.endTurn());
        Doc.due("with 2 actions", 2, stunned.unit(1, 6));
        SkirmishGrid spared = stunnedHeavy(4);
        spared.endTurn();
        Doc.due("2 actions if it was not stunned", 2, spared.unit(1, 6));
    }

    private static void endOfATurn() {
        Doc.says("At the end of its turn, the durations of its statuses decrease by 1, but not below 0.");
        SkirmishGrid game = Games.with(Games.on(".^./.../...", Games.seedWhere(6, 6, 6, 1, 6, 6, 6, 6)), Games.man(0, 0, 0), Games.man(1, 2, 3));
        game.begin();
        Doc.due("0 and 0", "00", "" + game.unit(0, 8) + game.unit(0, 9));
        game.move(1);
        game.throwAt(4);
        Doc.due("stunned and burning", "12", "" + game.unit(0, 8) + game.unit(0, 9));
        game.endTurn();
        Doc.due("both less by 1", "01", "" + game.unit(0, 8) + game.unit(0, 9));
        Doc.due("the other's stay", 1, game.unit(1, 8));
        game.endTurn();
        Doc.due("the first one's stay at the end of the other's turn", "01", "" + game.unit(0, 8) + game.unit(0, 9));
        game.endTurn();
        Doc.due("stunned not below 0", "00", "" + game.unit(0, 8) + game.unit(0, 9));
        game.endTurn();
        game.endTurn();
        Doc.due("burning not below 0", "00", "" + game.unit(0, 8) + game.unit(0, 9));
    }

    private static void turnsOfTheDead() {
        Doc.says("The turn of a unit that does not live any more ends at once, without that decrease.");
        // The sniper goes through fire, and a soldier that watches kills it there.
        SkirmishGrid moved = Games.with(Games.on("..^../###.#/#####/#.###", Games.seedWhere(6, 6, 6, 1, 6, 1, 20, 20, 4, 4)),
                Games.man(1, 1, 8), Games.man(0, 3, 1), Games.man(0, 2, 16));
        Doc.due("the soldier is first", 0, moved.begin());
        moved.watch();
        moved.endTurn();
        Doc.due("it dies in the fire", 2, moved.move(3));
        Doc.due("its health", 0, moved.unit(1, 3));
        Doc.due("its duration stays 2", 2, moved.unit(1, 9));
        Doc.due("the turn has gone to the next one", 2, moved.current());
        // A scout with 3 health is first in round 2, burning and stunned, and its own grenade kills it.
        SkirmishGrid own = ownGrenade();
        Doc.due("dead by its own grenade", 0, own.unit(0, 3));
        Doc.due("burning stays 2", 2, own.unit(0, 9));
        Doc.due("the next one has its turn", 1, own.current());
        Doc.due("its death is the first event of the grenade", true, Games.events(own).contains(" 8,0,4 4,0,0"));
    }

    private static SkirmishGrid ownGrenade() {
        // The soldier at the distance 2 takes 5 of the scout's 8 health.
        int seed = Games.seedWhere(6, 6, 6, 1, 6, 1, 20, 15, 4, 2, 6, 6, 6, 1, 6, 1);
        SkirmishGrid game = Games.with(Games.on(".../^../...", seed), Games.man(0, 0, 0), Games.man(1, 1, 2), Games.man(0, 2, 8));
        game.begin();
        game.endTurn();
        game.attack(0);
        Doc.due("health 3", 3, game.unit(0, 3));
        game.endTurn();
        game.endTurn();
        until(game, 0);
        game.move(3);
        Doc.due("it burns", 2, game.unit(0, 9));
        Doc.due("all three are near enough", 3, game.throwAt(4));
        return game;
    }

    private static void endOfTheFight() {
        Doc.says("The fight is over as soon as a team has no living unit, but a grenade concerns all its units; then nobody has a turn.");
        // Unit 1 dies by the grenade, and unit 2, of the other team, still loses health and is stunned after it.
        SkirmishGrid all = Games.with(Games.on("...../...../.....", Games.seedWhere(6, 6, 6, 1, 6, 1, 20, 15, 4, 4, 6, 5)),
                Games.man(0, 0, 0), Games.man(1, 3, 3), Games.man(0, 2, 4));
        Doc.due("the scout is first", 0, all.begin());
        Doc.due("6 of 7", 6, all.attack(1));
        Doc.due("two lose health", 2, all.throwAt(3));
        Doc.due("health after the end", 15, all.unit(2, 3));
        Doc.due("stunned after the end", 1, all.unit(2, 8));
        Doc.due("events", "9,-1,1 2,0,6 8,0,3 4,1,0 6,2,1", Games.events(all));
        Doc.due("over", 2, all.condition());
        Doc.raises("nobody has a turn", NoSuchElementException.class, () -> all.current());
        Doc.due("nor actions", 0, all.unit(0, 6) + all.unit(1, 6) + all.unit(2, 6));
        Doc.due("replayed", true, all.isReplayed());
        // Both would burn in round 2; the first one dies of it, so that the other one has no turn and no loss.
        int seed = Games.seedWhere(6, 6, 6, 1, 20, 15, 4, 3, 6, 6, 6, 1);
        SkirmishGrid burns = Games.with(Games.on(".^./.../^..", seed), Games.man(0, 3, 0), Games.man(1, 1, 7));
        burns.begin();
        burns.move(1);
        burns.endTurn();
        burns.move(6);
        Doc.due("1 is left", 6, burns.attack(0));
        Doc.due("over", -1, burns.endTurn());
        Doc.due("the winner burns no more", 12, burns.unit(1, 3));
        Doc.due("its duration", 1, burns.unit(1, 9));
        Doc.due("round", 2, burns.round());
        Doc.says("the order of the last round stays when the fight is over.");
        Doc.due("order", "01", "" + burns.order(0) + burns.order(1));
        Doc.due("rolls", "12 6", burns.unit(0, 7) + " " + burns.unit(1, 7));
    }

    // Sight and cover.

    private static void sight() {
        Doc.says("A cell is seen from another one if no wall, other than these two cells, is in the way");
        SkirmishGrid game = Games.on("#.#.#/...../#.#.#", 1);
        Doc.due("from a wall to a cell", true, game.isSeen(0, 1));
        Doc.due("from a cell to a wall", true, game.isSeen(1, 2));
        Doc.due("from a wall to a wall", true, game.isSeen(0, 10));
        Doc.due("but not past a third one", false, game.isSeen(0, 4));
        Doc.due("nor along a row", false, game.isSeen(1, 3));
        Doc.says("a wall is in the way if the straight line between the centers of both cells has a point in common with the inside"
                + " of its square; its edges and corners do not belong to the inside.");
        SkirmishGrid corner = Games.on(".#../#.../....", 1);
        Doc.due("through a corner of two walls", true, corner.isSeen(0, 5) && corner.isSeen(5, 0));
        Doc.due("a longer line through it", true, corner.isSeen(0, 10) && corner.isSeen(10, 0));
        Doc.due("beside the corner", false, corner.isSeen(0, 6) || corner.isSeen(6, 0));
        // The line from the cell 0 to the cell 7 goes by the corner of the cells 1, 2, 5 and 6, through 1 and 6.
        Doc.due("only corners of 2 and 5", true, Games.on("..#./.#../....", 1).isSeen(0, 7));
        Doc.due("the inside of 1", false, Games.on(".#../..../....", 1).isSeen(0, 7));
        Doc.due("the inside of 6", false, Games.on("..../..#./....", 1).isSeen(7, 0));
        // The line from 0 to 9 goes through 4 and 5, over the edge between them.
        Doc.due("beside the edge", true, Games.on(".#../..../#.##", 1).isSeen(0, 9));
        Doc.due("above the edge", false, Games.on("..../#.../....", 1).isSeen(0, 9));
        Doc.due("behind the edge", false, Games.on("..../.#../....", 1).isSeen(9, 0));
        Doc.due("behind its end", true, Games.on("..../..../..#.", 1).isSeen(8, 9));
        everyWall();
        Doc.says("A cell is seen from itself.");
        Doc.due("a wall too", true, game.isSeen(0, 0) && game.isSeen(7, 7));
    }

    /** Each wall of a grid of 6 rows and 5 columns against each line, as the sentence says it. */
    private static void everyWall() {
        for (int wall = 0; wall < 30; wall++) {
            StringBuilder text = new StringBuilder("...../...../...../...../...../.....");
            text.setCharAt(wall / 5 * 6 + wall % 5, '#');
            for (int from = 0; from < 30; from++) {
                SkirmishGrid game = Games.on(text.toString(), 1);
                for (int to = 0; to < 30; to++) {
                    boolean isSeen = wall == from || wall == to || !meets(from, to, wall);
                    Doc.due("the wall " + wall + " between " + from + " and " + to, isSeen, game.isSeen(from, to));
                }
            }
        }
    }

    /**
     * Whether a line has a point in the inside of a wall: the points of the line where it could enter or leave it
     * lie at halves of a row or column, and between two such points next to each other it is inside or not.
     */
    private static boolean meets(int from, int to, int wall) {
        int down = to / 5 - from / 5;
        int right = to % 5 - from % 5;
        // 120 parts of the line: a line over 1 to 5 rows meets its halves at parts of 60, 30, 20, 15 and 12.
        for (int part = 0; part < 120; part++) {
            double middle = (part + 0.5) / 120;
            double row = from / 5 + middle * down - wall / 5;
            double column = from % 5 + middle * right - wall % 5;
            if (Math.abs(row) < 0.5 && Math.abs(column) < 0.5) {
                return true;
            }
        }
        return false;
    }

    private static void cover() {
        Doc.says("the neighbor above it if the row of the other cell is less than its row, the one below it if that row is greater,"
                + " and in the same way the one to the left or to the right by the columns.");
        int[] nearer = {6, 8, 16, 18};
        String[] grids = {"...../..#../...../...../.....", "...../...../...../..#../.....", "...../...../.#.../...../.....",
            "...../...../...#./...../....."};
        for (int other = 0; other < 25; other++) {
            boolean[] counts = {other / 5 < 2, other / 5 > 2, other % 5 < 2, other % 5 > 2};
            for (int side = 0; side < 4; side++) {
                Doc.due("wall " + side + " against " + other, counts[side] ? 2 : 0, Games.on(grids[side], 1).cover(12, other));
                Doc.due("barrier " + side + " against " + other, counts[side] ? 1 : 0,
                        Games.on(grids[side].replace('#', 'o'), 1).cover(12, other));
            }
        }
        for (int diagonal : nearer) {
            StringBuilder text = new StringBuilder("...../...../...../...../.....");
            text.setCharAt(diagonal / 5 * 6 + diagonal % 5, '#');
            Doc.due("a diagonal wall " + diagonal, 0, Games.on(text.toString(), 1).cover(12, diagonal));
        }
        Doc.says("The cover is 2 if one of these neighbors is a wall, otherwise 1 if one of them is a barrier, and otherwise 0.");
        Doc.due("wall and barrier", 2, Games.on(".o./#../...", 1).cover(4, 0));
        Doc.due("barrier and wall", 2, Games.on(".#./o../...", 1).cover(4, 0));
        Doc.due("two barriers", 1, Games.on(".o./o../...", 1).cover(4, 0));
        Doc.due("two walls", 2, Games.on(".#./#../...", 1).cover(4, 0));
        Doc.due("mud and fire", 0, Games.on(".~./^../...", 1).cover(4, 0));
        Doc.due("against itself", 0, Games.on(".#./#.#/.#.", 1).cover(4, 4));
        Doc.due("at the edge of the grid", 0, Games.on("#.#/.../...", 1).cover(0, 8));
    }

    // Text.

    private static void buffer() {
        Doc.says("The input buffer holds up to 71 characters with codes from 32 to 126.");
        for (int code = 0; code < 300; code++) {
            SkirmishGrid game = new SkirmishGrid();
            char sign = (char) code;
            if (code >= 32 && code <= 126) {
                Doc.due("code " + code, 1, game.append(sign));
            } else {
                Doc.raises("code " + code, IllegalArgumentException.class, () -> game.append(sign));
                Doc.due("nothing in the buffer after code " + code, 1, game.append('.'));
            }
        }
        SkirmishGrid full = new SkirmishGrid();
        String row = "........";
        Games.type(full, String.join("/", row, row, row, row, row, row, row, "......."));
        Doc.due("character 71", 71, full.append('^'));
        Doc.raises("character 72", IllegalStateException.class, () -> full.append('.'));
        Doc.due("all 71 are a grid", 88, full.load(1));
        Doc.due("its last cell", '^', full.terrain(7, 7));
        Doc.due("the buffer is empty again", 1, full.append('.'));
        Doc.says("The buffer is empty afterwards in any case.");
        SkirmishGrid wide = new SkirmishGrid();
        Games.type(wide, "./".repeat(35) + ".");
        Doc.raises("36 rows", UnsupportedOperationException.class, () -> wide.load(1));
        Doc.due("empty after an unfit text", 1, wide.append('x'));
        Doc.raises("malformed", IllegalArgumentException.class, () -> wide.load(1));
        Doc.due("empty after a malformed text", 1, wide.append('.'));
    }

    private static void text() {
        Doc.says("A grid is written row by row, with \"/\" between one row and the next; a cell is written as \".\", \"#\", \"o\", \"~\""
                + " or \"^\" for open, wall, barrier, mud and fire.");
        String signs = ".#o~^";
        for (int code = 32; code <= 126; code++) {
            String sign = String.valueOf((char) code);
            SkirmishGrid game = new SkirmishGrid();
            Games.type(game, ".../..." + sign + "/...");
            SkirmishGrid good = new SkirmishGrid();
            Games.type(good, ".../.." + sign + "/...");
            if (signs.contains(sign)) {
                Doc.due("sign " + sign, 33, good.load(1));
                Doc.due("the cell " + sign, sign.charAt(0), good.terrain(1, 2));
            } else {
                Doc.raises("sign " + sign, IllegalArgumentException.class, () -> good.load(1));
                Doc.due("where " + sign + " is", 6, good.errorPosition());
            }
            Doc.raises("a fourth sign " + sign, IllegalArgumentException.class, () -> game.load(1));
            Doc.due("where the fourth sign " + sign + " is", sign.equals("/") ? 8 : 7, game.errorPosition());
        }
        Doc.says("All rows have the same number of cells.");
        for (int last = 0; last <= 8; last++) {
            SkirmishGrid game = new SkirmishGrid();
            Games.type(game, "..../..../" + ".".repeat(last));
            if (last == 4) {
                Doc.due("4, 4 and 4", 34, game.load(1));
            } else {
                Doc.raises("4, 4 and " + last, IllegalArgumentException.class, () -> game.load(1));
                Doc.due("position with 4, 4 and " + last, last < 4 ? 10 + last : 14, game.errorPosition());
            }
        }
    }

    private static boolean isGrid(String text) {
        String[] rows = text.split("/", -1);
        for (String row : rows) {
            if (!row.matches("[.#o~^]+") || row.length() != rows[0].length()) {
                return false;
            }
        }
        return true;
    }

    private static boolean canGoOn(String start) {
        for (int more = 0; more <= 71; more++) {
            if (isGrid(start + ".".repeat(more))) {
                return true;
            }
        }
        return false;
    }

    /** All texts of up to 7 of these signs, as the sentence says it; longer ones by hand. */
    private static void errorPosition() {
        Doc.says("The error position of a text that is malformed is the lowest index of a character with which, after the characters"
                + " before it, no grid can go on, or the length of the text if there is no such index.");
        String signs = "./x#";
        for (int length = 0; length <= 7; length++) {
            for (int number = 0; number < 1 << 2 * length; number++) {
                StringBuilder text = new StringBuilder();
                for (int place = 0; place < length; place++) {
                    text.append(signs.charAt(number >> 2 * place & 3));
                }
                lookAt(text.toString());
            }
        }
        String row = "........";
        String seven = String.join("/", row, row, row, row, row, row, row);
        lookAt(seven + "/.......");
        lookAt(seven + "/.......x");
        lookAt(seven + "/......./");
        lookAt(seven + "/");
        lookAt(".".repeat(71));
        lookAt(".".repeat(70) + "/");
        lookAt(".".repeat(35) + "/" + ".".repeat(35));
        lookAt(".".repeat(34) + "/" + ".".repeat(36));
        lookAt(".".repeat(36) + "/" + ".".repeat(34));
        lookAt("./".repeat(35));
        lookAt("./".repeat(35) + "x");
        for (char sign = 32; sign <= 126; sign++) {
            lookAt("..." + sign + "...");
        }
    }

    private static void lookAt(String text) {
        SkirmishGrid game = new SkirmishGrid();
        Games.type(game, text);
        int due = text.length();
        for (int index = text.length() - 1; index >= 0; index--) {
            due = canGoOn(text.substring(0, index + 1)) ? due : index;
        }
        String answer = Probe.answer(() -> game.load(1));
        if (isGrid(text)) {
            boolean isFit = text.matches("(.{3,8}/){2,7}.{3,8}");
            Doc.due("well-formed: " + text, true, isFit ? answer.matches("\\d\\d") : answer.equals("UnsupportedOperationException"));
            Doc.raises("no error position: " + text, NoSuchElementException.class, () -> game.errorPosition());
        } else {
            Doc.due("malformed: " + text, "IllegalArgumentException", answer);
            Doc.due("position in " + text, due, game.errorPosition());
        }
    }

    private static void lastErrorPosition() {
        Doc.says("Returns the error position of the last text that was malformed.");
        SkirmishGrid game = new SkirmishGrid();
        Doc.raises("none yet", NoSuchElementException.class, () -> game.errorPosition());
        for (String text : new String[] {".../.../...", "........./........./.........", "..", ".../.../.../.../.../.../.../.../..."}) {
            Games.type(game, text);
            Probe.answer(() -> game.load(1));
            Doc.raises("none after " + text, NoSuchElementException.class, () -> game.errorPosition());
        }
        String[] texts = {"...x", "x", ".../.../...", "..", "", ".../.../..", ".../.../..."};
        int[] positions = {3, 0, 0, 0, 0, 10, 10};
        for (int i = 0; i < texts.length; i++) {
            Games.type(game, texts[i]);
            Probe.answer(() -> game.load(1));
            Doc.due("after \"" + texts[i] + "\"", positions[i], game.errorPosition());
        }
    }

    private static void startsAnew() {
        Doc.says("Starts anew with the grid in the input buffer: there are no units, no events and no commands, and the fight has not begun."
                + " The rows of healths and the snapshot stay.");
        SkirmishGrid game = Games.with(new SkirmishGrid(), Games.man(0, 0, 0), Games.man(1, 2, 24));
        game.begin();
        game.guard();
        game.storeHealths(0, true);
        game.storeHealths(1, false);
        game.snapshot();
        Games.type(game, "..../..../....");
        Doc.due("loaded", 34, game.load(-5));
        Doc.due("units", 0, game.unitCount());
        Doc.due("events", 0, game.eventCount());
        Doc.due("commands", 0, game.commandCount());
        Doc.due("condition and round", "0 0", game.condition() + " " + game.round());
        Doc.raises("nothing to undo", IllegalStateException.class, () -> game.undo());
        Doc.raises("nothing to replay", IllegalStateException.class, () -> game.isReplayed());
        Doc.raises("no order", NoSuchElementException.class, () -> game.order(0));
        Games.with(game, Games.man(0, 3, 0), Games.man(1, 3, 11));
        Doc.raises("nobody has a turn", NoSuchElementException.class, () -> game.current());
        Doc.raises("no commands yet", UnsupportedOperationException.class, () -> game.guard());
        Doc.due("no turn, roll or status of the old units", "0 0 0 0 0 0", game.unit(0, 6) + " " + game.unit(0, 7) + " " + game.unit(0, 8)
                + " " + game.unit(0, 9) + " " + game.unit(0, 10) + " " + game.unit(0, 11));
        game.begin();
        Doc.due("the new seed", 6 + die(-5, 1, 6), game.unit(0, 7));
        Doc.due("the first round again", "9,-1,1", Games.events(game));
        Doc.due("a row of ints", Float.floatToIntBits(18.0f), game.storedBits(0, 1));
        Doc.due("a row of floats", Float.floatToIntBits(1.0f), game.storedBits(1, 1));
        Doc.raises("they are still of different types", UnsupportedOperationException.class, () -> game.copyHealths(0, 1));
        Doc.due("the snapshot", 2, game.restore());
        Doc.due("its grid", '.', game.terrain(4, 4));
        Doc.due("its guard", 1, game.unit(0, 10));
        SkirmishGrid statuses = Games.with(Games.on("^../.../...", Games.seedWhere(6, 6, 6, 1, 6, 5)), Games.man(0, 1, 1), Games.man(1, 2, 8));
        statuses.begin();
        statuses.throwAt(1);
        statuses.move(0);
        Doc.due("stunned and burning before", "1 2", statuses.unit(0, 8) + " " + statuses.unit(0, 9));
        Games.type(statuses, "..../..../....");
        statuses.load(1);
        Games.with(statuses, Games.man(1, 0, 0), Games.man(0, 0, 11));
        Doc.due("neither afterwards", "0 0", statuses.unit(0, 8) + " " + statuses.unit(0, 9));
        statuses.begin();
        Doc.due("nor in the fight", true, statuses.unit(0, 8) == 0 && statuses.unit(statuses.current(), 6) == 2);
    }

    /** The third unit of the game before lives, watches and has ammunition; it is no unit of the next game. */
    private static void oldUnits() {
        Doc.says("there are no units, no events and no commands, and the fight has not begun.");
        SkirmishGrid one = withWatchers();
        Games.type(one, "...../...../...../...../.....");
        one.load(1);
        Doc.due("no team has units", "ArithmeticException ArithmeticException", Probe.answer(() -> one.meanHealth(0)) + " "
                + Probe.answer(() -> one.meanHealth(1)));
        Games.with(one, Games.man(0, 0, 11), Games.man(0, 0, 13));
        Doc.raises("no unit of team 1", IllegalStateException.class, () -> one.begin());
        Doc.due("its cell is free", 2, one.addUnit(1, 0, 12));
        SkirmishGrid two = withWatchers();
        Games.type(two, "...#./...##/...../...../.....");
        two.load(1);
        Games.with(two, Games.man(0, 0, 11), Games.man(1, 2, 4));
        lookForOldUnits(two);
        Doc.says("Restores all that from the snapshot, which stays available.");
        SkirmishGrid restored = Games.with(Games.on("...#./...##/...../...../.....", 1), Games.man(0, 0, 11), Games.man(1, 2, 4));
        restored.snapshot();
        Games.type(restored, "...../...../...../...../.....");
        restored.load(1);
        watchAll(restored);
        Doc.due("two units", 2, restored.restore());
        lookForOldUnits(restored);
    }

    private static SkirmishGrid withWatchers() {
        SkirmishGrid game = new SkirmishGrid();
        watchAll(game);
        return game;
    }

    private static void watchAll(SkirmishGrid game) {
        Games.with(game, Games.man(0, 0, 0), Games.man(1, 3, 24), Games.man(1, 3, 12), Games.man(1, 3, 14), Games.man(1, 3, 10));
        game.begin();
        for (int turn = 0; turn < 5; turn++) {
            game.watch();
            if (turn < 4) {
                game.endTurn();
            }
        }
        Doc.due("the third one lives and watches", "7 1", game.unit(2, 3) + " " + game.unit(2, 11));
    }

    /** A scout at 11 and a heavy that it cannot see, and nobody else. */
    private static void lookForOldUnits(SkirmishGrid game) {
        Doc.due("two units", 2, game.unitCount());
        Doc.raises("no third unit", IndexOutOfBoundsException.class, () -> game.unit(2, 0));
        Doc.due("the scout is first", 0, game.begin());
        Doc.raises("no third place of the order", NoSuchElementException.class, () -> game.order(2));
        Doc.raises("no target", NoSuchElementException.class, () -> game.bestTarget());
        Doc.due("nobody in the way", 1, game.costs(12));
        Doc.due("nobody stops it", 12, game.move(12));
        Doc.due("nobody reacts", "9,-1,1 1,0,12", Games.events(game));
        Doc.due("a grenade for the scout alone", 1, game.throwAt(13));
        Doc.due("replayed", true, game.isReplayed());
        Doc.due("two healths", 2, game.storeHealths(0, true));
        Doc.due("mean health", 18.0f, game.meanHealth(1));
    }
}
