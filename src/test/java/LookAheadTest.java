import java.util.NoSuchElementException;

/** Promises 16 to 20: costs, pathCell, chance, meanDamage, bestTarget. */
public final class LookAheadTest {
    public static void main(String[] arguments) {
        costs();
        noPath();
        pathOrder();
        pathErrors();
        chance();
        chanceErrors();
        meanDamage();
        bestTarget();
        Check.finish();
    }

    /** A fight in which the scout of number 0 has the first turn. */
    private static SkirmishGrid scoutFirst(String text, int cell, int otherCell) {
        SkirmishGrid game = Games.with(Games.on(text, 1), Games.man(0, 0, cell), Games.man(1, 2, otherCell));
        Check.same("the scout is first", 0, game.begin());
        return game;
    }

    private static void costs() {
        SkirmishGrid game = scoutFirst(".~.../.o#^./....#/...#.", 0, 10);
        Check.same("16 own cell", 0, game.costs(0));
        Check.same("16 mud", 2, game.costs(1));
        Check.same("16 below", 1, game.costs(5));
        Check.same("16 barrier", 3, game.costs(6));
        Check.same("16 through the mud", 3, game.costs(2));
        Check.same("16 fire costs 1", 5, game.costs(8));
        Check.same("16 far", 5, game.costs(4));
        Check.same("16 around the heavy", 4, game.costs(11));
        Check.same("16 greater than the speed", 6, game.costs(13));
        SkirmishGrid mud = scoutFirst("~~~~~~~~/~~~~~~~~/~~~~~~~~", 0, 8);
        Check.same("16 however great", 18, mud.costs(23));
    }

    private static void noPath() {
        SkirmishGrid game = scoutFirst("..#./..#./..##/....", 0, 15);
        Check.raises("16 cell -1", IndexOutOfBoundsException.class, () -> game.costs(-1));
        Check.raises("16 cell 16", IndexOutOfBoundsException.class, () -> game.costs(16));
        Check.raises("16 wall", NoSuchElementException.class, () -> game.costs(2));
        Check.raises("16 behind walls", NoSuchElementException.class, () -> game.costs(3));
        Check.raises("16 living unit", NoSuchElementException.class, () -> game.costs(15));
        Check.raises("17 behind walls", NoSuchElementException.class, () -> game.pathCell(3, 0));
        SkirmishGrid idle = new SkirmishGrid();
        Check.raises("16 not begun", UnsupportedOperationException.class, () -> idle.costs(0));
        Check.raises("16 the cell is looked at first", IndexOutOfBoundsException.class, () -> idle.costs(25));
        Check.raises("17 not begun", UnsupportedOperationException.class, () -> idle.pathCell(0, 0));
        Check.raises("17 the cell is looked at first", IndexOutOfBoundsException.class, () -> idle.pathCell(25, 0));
    }

    private static void path(SkirmishGrid game, int cell, int... due) {
        for (int i = 0; i < due.length; i++) {
            Check.same("17 cell " + i + " of the path to " + cell, due[i], game.pathCell(cell, i));
        }
        Check.raises("17 end of the path to " + cell, NoSuchElementException.class,
                () -> game.pathCell(cell, due.length));
    }

    private static void pathOrder() {
        SkirmishGrid game = scoutFirst("...../...../...../...../.....", 12, 0);
        path(game, 12);
        path(game, 13, 13);
        path(game, 8, 7, 8);
        path(game, 18, 13, 18);
        path(game, 16, 17, 16);
        path(game, 6, 7, 6);
        path(game, 4, 7, 2, 3, 4);
        path(game, 24, 13, 14, 19, 24);
        path(game, 20, 17, 22, 21, 20);
        path(game, 5, 7, 6, 5);
        // The cheapest one comes before the order of directions.
        SkirmishGrid mud = scoutFirst("...../..~../...../...../.....", 12, 0);
        path(mud, 8, 13, 8);
        path(mud, 7, 7);
        path(mud, 2, 7, 2);
        path(mud, 6, 11, 6);
        // A later step decides among paths of equal costs with the same beginning.
        SkirmishGrid later = scoutFirst(".../~../.../...", 9, 0);
        path(later, 4, 6, 7, 4);
        path(later, 5, 6, 7, 4, 5);
    }

    private static void pathErrors() {
        SkirmishGrid game = scoutFirst(".../.../...", 0, 8);
        Check.raises("17 index -1", NoSuchElementException.class, () -> game.pathCell(2, -1));
        Check.raises("17 least index", NoSuchElementException.class, () -> game.pathCell(2, Integer.MIN_VALUE));
        Check.raises("17 greatest index", NoSuchElementException.class, () -> game.pathCell(2, Integer.MAX_VALUE));
        Check.raises("17 own cell has no path cells", NoSuchElementException.class, () -> game.pathCell(0, 0));
        Check.raises("17 cell 9", IndexOutOfBoundsException.class, () -> game.pathCell(9, 0));
        Check.raises("17 cell -1", IndexOutOfBoundsException.class, () -> game.pathCell(-1, 0));
    }

    private static double chanceOf(String text, int kind, int cell, int targetKind, int targetCell) {
        return Games.with(Games.on(text, 1), Games.man(0, kind, cell), Games.man(1, targetKind, targetCell)).chance(0, 1);
    }

    private static void chance() {
        String open = "......../......../........";
        // A scout at the distance 1 needs 8 + 1 - 4 = 5, so that 5 to 20 hit.
        Check.same("18 scout at 1", 16 / 20.0, chanceOf(open, 0, 0, 1, 1));
        Check.same("18 scout at 5", 12 / 20.0, chanceOf(open, 0, 0, 1, 5));
        Check.same("18 soldier at 6", 12 / 20.0, chanceOf(open, 1, 0, 0, 6));
        Check.same("18 heavy at 4", 12 / 20.0, chanceOf(open, 2, 0, 0, 4));
        Check.same("18 1 misses always", 19 / 20.0, chanceOf(open, 3, 0, 0, 1));
        Check.same("18 sniper at 2", 19 / 20.0, chanceOf(open, 3, 0, 0, 2 + 8));
        Check.same("18 sniper at 7", 15 / 20.0, chanceOf(open, 3, 0, 0, 7));
        Check.same("18 barrier", 13 / 20.0, chanceOf(".o./.../...", 0, 0, 1, 4));
        Check.same("18 wall", 10 / 20.0, chanceOf(".#./.../...", 0, 0, 1, 4));
        Check.same("18 the target's cover, not the own one", 16 / 20.0, chanceOf("#../.../...", 0, 1, 1, 2));
        // A heavy at the distance 4, with a wall above the target: 8 + 4 + 6 - 3 = 15.
        Check.same("18 far and in cover", 6 / 20.0, chanceOf("......../.....#../........", 2, 1, 1, 21));
        SkirmishGrid guarding = Games.with(Games.on(open, 1), Games.man(0, 0, 0), Games.man(1, 2, 1));
        guarding.begin();
        Check.same("18 heavy at 1", 15 / 20.0, guarding.chance(1, 0));
        guarding.guard();
        Check.same("18 the target guards", 13 / 20.0, guarding.chance(1, 0));
        Check.same("18 the guard itself has all chances", 16 / 20.0, guarding.chance(0, 1));
        guarding.attack(1);
        Check.same("18 actions do not matter", 16 / 20.0, guarding.chance(0, 1));
    }

    private static void chanceErrors() {
        SkirmishGrid game = Games.with(Games.on("....#.../......../........", 1), Games.man(0, 0, 0), Games.man(0, 1, 1),
                Games.man(1, 1, 5), Games.man(1, 3, 7), Games.man(1, 2, 22));
        Check.raises("18 unit -1", IndexOutOfBoundsException.class, () -> game.chance(-1, 2));
        Check.raises("18 unit 5", IndexOutOfBoundsException.class, () -> game.chance(5, 2));
        Check.raises("18 target -1", IndexOutOfBoundsException.class, () -> game.chance(0, -1));
        Check.raises("18 target 5", IndexOutOfBoundsException.class, () -> game.chance(0, 5));
        Check.raises("18 same team", IllegalArgumentException.class, () -> game.chance(0, 1));
        Check.raises("18 itself", IllegalArgumentException.class, () -> game.chance(0, 0));
        Check.raises("18 not seen", IllegalArgumentException.class, () -> game.chance(0, 2));
        Check.raises("18 too far", IllegalArgumentException.class, () -> game.chance(0, 4));
        Check.raises("19 unit 5", IndexOutOfBoundsException.class, () -> game.meanDamage(5, 2));
        Check.raises("19 target -1", IndexOutOfBoundsException.class, () -> game.meanDamage(0, -1));
        Check.raises("19 same team", IllegalArgumentException.class, () -> game.meanDamage(0, 1));
        Check.raises("19 not seen", IllegalArgumentException.class, () -> game.meanDamage(2, 0));
        Check.raises("19 too far", IllegalArgumentException.class, () -> game.meanDamage(4, 0));
        SkirmishGrid range = Games.with(Games.on("......../......../........", 1), Games.man(0, 0, 0), Games.man(1, 1, 6));
        Check.raises("18 out of the scout's range", IllegalArgumentException.class, () -> range.chance(0, 1));
        Check.same("18 in the soldier's", 12 / 20.0, range.chance(1, 0));
    }

    private static double mean(int kind, int targetKind, int cell) {
        return Games.with(Games.on("......../......../........", 1), Games.man(0, kind, 0), Games.man(1, targetKind, cell))
                .meanDamage(0, 1);
    }

    private static void meanDamage() {
        // Scout against soldier at 1: damages 2, 3, 4, 5, 15 results of the first die, and twice with 20.
        Check.same("19 scout, soldier", (14 * (2 + 3 + 4 + 5) + 14 + 28) / 80.0, mean(0, 1, 1));
        // Scout against heavy: 2 - 3 + 1..4 would be 0, 1, 2, 3, but it is at least 1.
        Check.same("19 at least 1", (15 * (1 + 1 + 2 + 3) + 2 * 7) / 80.0, mean(0, 2, 1));
        Check.same("19 sniper, scout at 7", (14 * 26 + 52) / 80.0, mean(3, 0, 7));
        Check.same("19 heavy, sniper at 4", (11 * 30 + 60) / 80.0, mean(2, 3, 4));
        SkirmishGrid weak = Games.with(Games.on(".../.../...", Games.seedWhere(6, 6, 6, 6, 20, 15, 4, 3)),
                Games.man(0, 0, 0), Games.man(1, 3, 1));
        weak.begin();
        double before = weak.meanDamage(0, 1);
        Check.same("22 hit", 5, weak.attack(1));
        Check.same("19 little health does not matter", before, weak.meanDamage(0, 1));
    }

    private static void bestTarget() {
        SkirmishGrid idle = new SkirmishGrid();
        Check.raises("20 not begun", UnsupportedOperationException.class, () -> idle.bestTarget());
        // The scout hits soldier and heavy, and the sniper the hardest, as it has no armor.
        SkirmishGrid game = Games.with(Games.on("...../...../.....", Games.seedWhere(6, 6, 6, 1, 6, 1, 6, 1)),
                Games.man(0, 0, 7), Games.man(1, 2, 6), Games.man(1, 1, 8), Games.man(1, 3, 2));
        Check.same("scout first", 0, game.begin());
        Check.same("20 greatest mean damage", 3, game.bestTarget());
        SkirmishGrid equal = Games.with(Games.on("...../...../.....", Games.seedWhere(6, 6, 6, 1, 6, 1)),
                Games.man(0, 0, 7), Games.man(1, 0, 6), Games.man(1, 0, 8));
        Check.same("scout first", 0, equal.begin());
        Check.same("20 lowest number", 1, equal.bestTarget());
        SkirmishGrid health = Games.with(Games.on("...../...../.....", Games.seedWhere(6, 6, 6, 1, 6, 1)),
                Games.man(0, 0, 7), Games.man(1, 0, 6), Games.man(1, 3, 8));
        Check.same("scout first", 0, health.begin());
        Check.same("20 least health", 2, health.bestTarget());
        health.watch();
        Check.same("20 without regard to actions", 2, health.bestTarget());
        SkirmishGrid far = Games.with(Games.on("......../......../........", 1), Games.man(0, 0, 0), Games.man(1, 2, 7));
        far.begin();
        Check.raises("20 too far", NoSuchElementException.class, () -> far.bestTarget());
    }
}
