import java.util.NoSuchElementException;

/**
 * The document's Description from "Attacks" on, and what the promises say of boundaries besides their exceptions,
 * sentence by sentence. BoundaryTest has the sections before.
 */
public final class FightBoundaryTest {
    private static final int[] HEALTH = {8, 12, 18, 7};
    private static final int[] ARMOR = {0, 1, 3, 0};
    private static final int[] AIM = {4, 5, 3, 9};
    private static final int[] POWER = {2, 3, 5, 4};
    private static final String WIDE = "......../......../........";

    public static void main(String[] arguments) {
        targets();
        ammunition();
        firstDie();
        secondDie();
        loss();
        pathCosts();
        pathChoice();
        stepByStep();
        fireOnTheWay();
        whoReacts();
        reactionThatHits();
        throwReach();
        blast();
        blastLoss();
        blastDie();
        eventKinds();
        latestEvents();
        commands();
        latestCommands();
        details();
        roundAndCondition();
        properties();
        lookingAhead();
        chances();
        bestTarget();
        answersOfCommands();
        undo();
        rows();
        snapshot();
        Check.finish();
    }

    private static void until(SkirmishGrid game, int unit) {
        for (int turn = 0; turn < 9 && game.current() != unit; turn++) {
            game.endTurn();
        }
    }

    /** The first unit has its turn; both dice of the rolls are in the seed already. */
    private static SkirmishGrid duel(String text, int[] first, int[] second, int... dice) {
        int[] all = new int[4 + dice.length];
        System.arraycopy(new int[] {6, 6, 6, 1}, 0, all, 0, 4);
        System.arraycopy(dice, 0, all, 4, dice.length);
        SkirmishGrid game = Games.with(Games.on(text, Games.seedWhere(all)), first, second);
        game.begin();
        until(game, 0);
        return game;
    }

    private static String tail(SkirmishGrid game, int count) {
        StringBuilder all = new StringBuilder();
        for (int i = Math.max(0, game.eventCount() - count); i < game.eventCount(); i++) {
            all.append(all.length() > 0 ? " " : "").append(game.event(i, 0)).append(',').append(game.event(i, 1)).append(',')
                    .append(game.event(i, 2));
        }
        return all.toString();
    }

    // Attacks.

    private static void targets() {
        Doc.says("A unit can attack a living unit of the other team if the cell of the target is seen from its cell, and their distance"
                + " is at most its range.");
        Doc.due("at the range", 2, duel(WIDE, Games.man(0, 1, 0), Games.man(1, 2, 6), 20, 15, 4, 2).attack(1));
        SkirmishGrid far = duel(WIDE, Games.man(0, 1, 0), Games.man(1, 2, 7));
        Doc.raises("one beyond the range", IllegalArgumentException.class, () -> far.attack(1));
        Doc.due("the target's range does not matter", true, Games.with(Games.on(WIDE, 1), Games.man(0, 3, 0), Games.man(1, 2, 7))
                .chance(0, 1) > 0);
        SkirmishGrid wall = duel("..#..../......./.......", Games.man(0, 1, 0), Games.man(1, 2, 4));
        Doc.raises("not seen", IllegalArgumentException.class, () -> wall.attack(1));
    }

    private static void ammunition() {
        Doc.says("It uses 1 ammunition and rolls a die with 20 sides.");
        SkirmishGrid game = duel(".../.../...", Games.man(0, 3, 0), Games.man(1, 2, 8), 20, 2, 4, 1, 20, 2, 4, 1);
        game.attack(1);
        Doc.due("3 become 2", 2, game.unit(0, 4));
        game.attack(1);
        game.endTurn();
        until(game, 0);
        Doc.due("1 is enough", true, game.attack(1) >= 0);
        Doc.due("1 becomes 0", 0, game.unit(0, 4));
        Doc.raises("0 is too few", IllegalStateException.class, () -> game.attack(1));
        Doc.due("a refused attack uses none", 0, game.unit(0, 4));
        Doc.due("the target uses none", 4, game.unit(1, 4));
        SkirmishGrid missed = duel(".../.../...", Games.man(0, 3, 0), Games.man(1, 2, 8), 20, 1);
        missed.attack(1);
        Doc.due("a miss uses one", 2, missed.unit(0, 4));
    }

    private static void firstDie() {
        Doc.says("With the result 20 it hits, with the result 1 it misses; otherwise it hits if the result plus its aim is at least"
                + " 8 plus the distance, plus 3 times the cover of the target's cell against its own one, plus 2 if the target guards.");
        String[] grids = {"......../......../........", "......../....o.../........", "......../....#.../........"};
        for (int kind = 0; kind < 4; kind++) {
            for (int cover = 0; cover < 3; cover++) {
                for (int result = 1; result <= 20; result++) {
                    // From the cell 1 to the cell 20: the distance is 3, and the cell above the target covers it.
                    boolean isSeen = Games.on(grids[cover], 1).isSeen(1, 20);
                    Doc.due("the cell is seen", true, isSeen);
                    int needed = 8 + 3 + 3 * cover - AIM[kind];
                    boolean hits = result == 20 || result > 1 && result >= needed;
                    SkirmishGrid game = duel(grids[cover], Games.man(0, kind, 1), Games.man(1, 2, 20), 20, result);
                    Doc.due("kind " + kind + ", cover " + cover + ", result " + result, hits, game.attack(1) > 0);
                }
            }
        }
        Doc.due("a sniper beside its target misses with 1 alone", 0, duel(".../.../...", Games.man(0, 3, 0), Games.man(1, 2, 1), 20, 1).attack(1));
        Doc.due("and hits with 2", 2, duel(".../.../...", Games.man(0, 3, 0), Games.man(1, 2, 1), 20, 2, 4, 1).attack(1));
        // The heavy attacks the scout that guards: 8 + 1 - 3 = 6, and 8 with the guard.
        for (int result = 5; result <= 8; result++) {
            int seed = Games.seedWhere(6, 6, 6, 1, 20, result);
            SkirmishGrid open = Games.with(Games.on(".../.../...", seed), Games.man(0, 0, 0), Games.man(1, 2, 1));
            open.begin();
            open.endTurn();
            Doc.due("no guard, result " + result, result >= 6, open.attack(0) > 0);
            SkirmishGrid guarding = Games.with(Games.on(".../.../...", seed), Games.man(0, 0, 0), Games.man(1, 2, 1));
            guarding.begin();
            guarding.guard();
            guarding.endTurn();
            Doc.due("guard, result " + result, result >= 8, guarding.attack(0) > 0);
        }
        SkirmishGrid own = duel("#../.../...", Games.man(0, 1, 1), Games.man(1, 2, 2), 20, 4, 4, 4);
        own.guard();
        Doc.due("own cover and guard do not matter", 3 + 4 - 3, own.attack(1));
    }

    private static void secondDie() {
        Doc.says("If it hits, it rolls a die with 4 sides; the damage is this result plus its power minus the target's armor,"
                + " but at least 1, and twice that if the first result was 20.");
        for (int kind = 0; kind < 4; kind++) {
            for (int other = 0; other < 4; other++) {
                for (int result = 1; result <= 4; result++) {
                    int damage = Math.max(1, result + POWER[kind] - ARMOR[other]);
                    String what = "kind " + kind + " against " + other + ", result " + result;
                    SkirmishGrid once = duel(".../.../...", Games.man(0, kind, 0), Games.man(1, other, 1), 20, 19, 4, result);
                    Doc.due(what, damage, once.attack(1));
                    Doc.due("health, " + what, Math.max(0, HEALTH[other] - damage), once.unit(1, 3));
                    SkirmishGrid twice = duel(".../.../...", Games.man(0, kind, 0), Games.man(1, other, 1), 20, 20, 4, result);
                    Doc.due("twice, " + what, 2 * damage, twice.attack(1));
                    Doc.due("health, twice, " + what, Math.max(0, HEALTH[other] - 2 * damage), twice.unit(1, 3));
                }
            }
        }
        // After a miss the next die with 6 sides is a grenade's; after a hit there is one die between.
        SkirmishGrid miss = duel(".../.../...", Games.man(0, 0, 0), Games.man(1, 2, 8), 20, 1, 6, 5);
        miss.attack(1);
        miss.throwAt(8);
        Doc.due("no second die after a miss", 1, miss.unit(1, 8));
    }

    private static void loss() {
        Doc.says("The health of the target decreases by the damage, but not below 0.");
        SkirmishGrid equal = duel(".../.../...", Games.man(0, 1, 0), Games.man(1, 3, 1), 20, 15, 4, 4);
        Doc.due("7 of 7", 7, equal.attack(1));
        Doc.due("health", 0, equal.unit(1, 3));
        SkirmishGrid more = duel(".../.../...", Games.man(0, 2, 0), Games.man(1, 3, 1), 20, 20, 4, 4);
        Doc.due("18 of 7", 18, more.attack(1));
        Doc.due("health", 0, more.unit(1, 3));
        Doc.due("the event has all of it", "2,0,18 4,1,0", tail(more, 2));
    }

    // Paths and moves.

    private static void pathCosts() {
        Doc.says("A path goes from cell to neighbor, over cells that are no walls and have no living units. Entering a cell costs 2 if"
                + " it is mud or a barrier, and 1 otherwise.");
        SkirmishGrid game = Games.with(Games.on("~o~^.#/######/######", 1), Games.man(0, 0, 0), Games.man(1, 2, 4));
        game.begin();
        Doc.due("the own cell's mud does not count", 2, game.costs(1));
        Doc.due("barrier and mud", 4, game.costs(2));
        Doc.due("fire", 5, game.costs(3));
        Doc.raises("an enemy's cell", NoSuchElementException.class, () -> game.costs(4));
        Doc.raises("a wall", NoSuchElementException.class, () -> game.costs(5));
        SkirmishGrid friend = Games.with(Games.on("...../####./.....", 1), Games.man(0, 0, 0), Games.man(0, 2, 2), Games.man(1, 2, 14));
        friend.begin();
        Doc.due("before the friend", 1, friend.costs(1));
        Doc.raises("a friend's cell", NoSuchElementException.class, () -> friend.costs(2));
        Doc.raises("behind a friend", NoSuchElementException.class, () -> friend.costs(3));
    }

    private static void pathChoice() {
        Doc.says("The path to a cell is the cheapest one; among several of them, the one whose first step comes first in the order above,"
                + " right, below, left, and so on for the next steps.");
        String[] order = {"7 8", "7 6", "13 18", "17 16"};
        int[] goals = {8, 6, 18, 16};
        SkirmishGrid open = Games.with(Games.on("...../...../...../...../.....", 1), Games.man(0, 0, 12), Games.man(1, 2, 0));
        open.begin();
        for (int i = 0; i < 4; i++) {
            Doc.due("to " + goals[i], order[i], open.pathCell(goals[i], 0) + " " + open.pathCell(goals[i], 1));
        }
        // Above is mud: 2 + 1 by it, 1 + 1 at the right of it; equal costs with mud at both.
        SkirmishGrid mud = Games.with(Games.on("...../..~../...../...../.....", 1), Games.man(0, 0, 12), Games.man(1, 2, 0));
        mud.begin();
        Doc.due("cheaper before the order", 13, mud.pathCell(8, 0));
        SkirmishGrid both = Games.with(Games.on("...../..~../...o./...../.....", 1), Games.man(0, 0, 12), Games.man(1, 2, 0));
        both.begin();
        Doc.due("the order again with equal costs", 7, both.pathCell(8, 0));
        // The way round costs 5, straight through three barriers and a cell 7.
        SkirmishGrid round = Games.with(Games.on("...../.ooo./.....", 1), Games.man(0, 0, 5), Games.man(1, 2, 14));
        round.begin();
        // From the cell 0 the way would be as cheap as from the cell 3 below it, but nobody can go there.
        String[] corners = {"#~./.../...", ".~./.../..."};
        for (int i = 0; i < 2; i++) {
            SkirmishGrid shut = Games.with(Games.on(corners[i], 1), Games.man(0, 0, 3), Games.man(1, 2, i == 0 ? 8 : 0));
            shut.begin();
            Doc.due(i == 0 ? "not over a wall" : "not over a living unit", "3 4 5 2", shut.costs(2) + " " + shut.pathCell(2, 0) + " "
                    + shut.pathCell(2, 1) + " " + shut.pathCell(2, 2));
        }
        Doc.due("round the barriers", "0 6", round.pathCell(9, 0) + " " + round.costs(9));
    }

    private static void stepByStep() {
        Doc.says("A unit moves along the path to a cell, cell by cell.");
        for (int from = 0; from < 9; from++) {
            for (int to = 0; to < 9; to++) {
                for (String text : new String[] {".../.../...", ".#./.../...", "..#/#../..."}) {
                    walk(text, from, to);
                }
            }
        }
        // Fire burns in the cell 0 too, on the way from the cell 1 to the cell 2 of the next row.
        SkirmishGrid corner = Games.with(Games.on("^.#/.##/...", 1), Games.man(0, 0, 1), Games.man(1, 2, 8));
        corner.begin();
        Doc.due("through the cell 0", 3, corner.move(3));
        Doc.due("it burns", 2, corner.unit(0, 9));
    }

    /** A heavy stands in the way, on the first free cell that is neither of both. */
    private static void walk(String text, int from, int to) {
        String signs = text.replace("/", "");
        if (from == to || signs.charAt(from) == '#' || signs.charAt(to) == '#') {
            return;
        }
        int other = 0;
        while (other == from || other == to || signs.charAt(other) == '#') {
            other++;
        }
        SkirmishGrid game = Games.with(Games.on(text, 1), Games.man(0, 0, from), Games.man(1, 2, other));
        game.begin();
        if (Probe.answer(() -> game.costs(to)).equals("NoSuchElementException")) {
            Doc.raises("no path", IllegalArgumentException.class, () -> game.move(to));
        } else {
            Doc.due(text + " from " + from + " to " + to, to, game.move(to));
            Doc.due("cell", to, game.unit(0, 2));
            Doc.due("event", "1,0," + to, tail(game, 1));
        }
    }

    private static void fireOnTheWay() {
        Doc.says("When it enters a cell with fire, the duration of its burning becomes 2.");
        SkirmishGrid game = Games.with(Games.on("^.^./####/....", 1), Games.man(0, 0, 0), Games.man(1, 2, 11));
        game.begin();
        Doc.due("where it was added", 0, game.unit(0, 9));
        game.move(1);
        Doc.due("leaving fire", 0, game.unit(0, 9));
        game.move(3);
        Doc.due("through fire", 2, game.unit(0, 9));
        game.endTurn();
        Doc.due("1 is left", 1, game.unit(0, 9));
        until(game, 1);
        game.endTurn();
        until(game, 0);
        Doc.due("it has burnt once", 6, game.unit(0, 3));
        game.move(2);
        Doc.due("1 becomes 2 again", 2, game.unit(0, 9));
        game.move(1);
        Doc.due("2 stays 2", 2, game.unit(0, 9));
        Doc.due("no loss by entering", 6, game.unit(0, 3));
    }

    /** Unit 0 has the first turn and watches; unit 1 moves then. */
    private static SkirmishGrid watching(String text, int[] watcher, int[] mover, int... dice) {
        SkirmishGrid game = duel(text, watcher, mover, dice);
        game.watch();
        game.endTurn();
        until(game, 1);
        return game;
    }

    private static void whoReacts() {
        Doc.says("Then, in ascending order of the numbers, each unit of the other team that lives and watches, sees the cell, is not"
                + " farther from it than its range, and has ammunition, reacts: it stops watching, and attacks the moving unit.");
        SkirmishGrid range = watching(WIDE, Games.man(0, 0, 0), Games.man(1, 1, 7), 20, 1);
        Doc.due("to the distance 6", 6, range.move(6));
        Doc.due("no reaction beyond the range", "1 6", range.unit(0, 11) + " " + range.unit(0, 4));
        Doc.due("to the distance 5", 5, range.move(5));
        Doc.due("a reaction at the range", "0 5", range.unit(0, 11) + " " + range.unit(0, 4));
        Doc.due("events", "1,1,6 7,0,1 3,0,1 1,1,5", tail(range, 4));
        SkirmishGrid hidden = watching("..#.../....../......", Games.man(0, 0, 0), Games.man(1, 1, 5), 20, 1);
        Doc.due("behind the wall", 3, hidden.move(3));
        Doc.due("no reaction without sight", 1, hidden.unit(0, 11));
        SkirmishGrid idle = duel(WIDE, Games.man(0, 0, 0), Games.man(1, 1, 7));
        idle.endTurn();
        idle.move(4);
        Doc.due("no reaction without watching", "1,1,4", tail(idle, 1));
        SkirmishGrid least = duel("...../...../.....", Games.man(0, 3, 0), Games.man(1, 2, 4), 20, 2, 4, 1, 20, 2, 4, 1);
        least.attack(1);
        least.attack(1);
        Doc.due("one is left", 1, least.unit(0, 4));
        until(least, 1);
        least.endTurn();
        until(least, 0);
        least.watch();
        until(least, 1);
        least.move(9);
        Doc.due("1 ammunition is enough for a reaction", "0 0", least.unit(0, 4) + " " + least.unit(0, 11));
        SkirmishGrid once = watching(WIDE, Games.man(0, 0, 0), Games.man(1, 1, 5), 20, 1);
        Doc.due("it goes on after a miss", 1, once.move(1));
        Doc.due("one reaction alone", "9,-1,1 7,0,1 3,0,1 1,1,1", Games.events(once));
        // The sniper 0 watches, and dies by the sniper 1; its friend 2 keeps the fight going.
        SkirmishGrid dead = Games.with(Games.on(".../.../...", Games.seedWhere(6, 6, 6, 1, 6, 1, 20, 20, 4, 4)),
                Games.man(0, 3, 0), Games.man(1, 3, 4), Games.man(0, 2, 8));
        dead.begin();
        dead.watch();
        dead.endTurn();
        dead.attack(0);
        Doc.due("it still watches in its death", "0 1", dead.unit(0, 3) + " " + dead.unit(0, 11));
        dead.move(3);
        Doc.due("the dead do not react", "1,1,3", tail(dead, 1));
        SkirmishGrid friend = Games.with(Games.on(".../.../...", Games.seedWhere(6, 6, 6, 1, 6, 1)), Games.man(0, 0, 0),
                Games.man(0, 0, 8), Games.man(1, 2, 6));
        friend.begin();
        friend.watch();
        friend.endTurn();
        until(friend, 1);
        friend.move(7);
        Doc.due("friends do not react", "1,1,7", tail(friend, 1));
    }

    /** Soldiers 0 and 1 watch, the scout 2 of the other team has its turn last. */
    private static SkirmishGrid twoWatchers(int... dice) {
        int[] all = new int[6 + dice.length];
        System.arraycopy(new int[] {6, 6, 6, 5, 6, 1}, 0, all, 0, 6);
        System.arraycopy(dice, 0, all, 6, dice.length);
        SkirmishGrid game = Games.with(Games.on("...../...../..^..", Games.seedWhere(all)), Games.man(1, 1, 0), Games.man(1, 1, 4),
                Games.man(0, 1, 10));
        Doc.due("first", 0, game.begin());
        game.watch();
        Doc.due("second", 1, game.endTurn());
        game.watch();
        Doc.due("third", 2, game.endTurn());
        return game;
    }

    private static void reactionThatHits() {
        Doc.says("If a reaction hits, the move ends in this cell, and nobody else reacts.");
        SkirmishGrid first = twoWatchers(20, 15, 4, 1);
        Doc.due("it ends in the first cell", 11, first.move(13));
        Doc.due("the other one still watches", "0 1", first.unit(0, 11) + " " + first.unit(1, 11));
        Doc.due("an action is left", 1, first.unit(2, 6));
        SkirmishGrid second = twoWatchers(20, 1, 20, 15, 4, 1);
        Doc.due("the second one hits there", 11, second.move(13));
        Doc.due("both have reacted, in ascending order", "7,0,2 3,0,2 7,1,2 2,1,3 1,2,11", tail(second, 5));
        SkirmishGrid none = twoWatchers(20, 1, 20, 1);
        Doc.due("both miss", 13, none.move(13));
        Doc.due("it has gone through the fire", 2, none.unit(2, 9));
        SkirmishGrid little = watching("...../...../.....", Games.man(0, 0, 0), Games.man(1, 2, 4), 20, 15, 4, 1);
        Doc.due("with a damage of 1 too", 3, little.move(2));
        Doc.due("health", 17, little.unit(1, 3));
        SkirmishGrid last = twoWatchers(20, 15, 4, 1);
        Doc.due("in the last cell it makes no difference", 11, last.move(11));
        Doc.due("but for the hit", 12 - 3, last.unit(2, 3));
    }

    // Grenades.

    private static void throwReach() {
        Doc.says("A grenade is thrown at a cell that is seen, is no wall, and whose distance is at most 4.");
        String text = "......../......../......../......../......../........";
        for (int column = 0; column < 8; column++) {
            SkirmishGrid game = duel(text, Games.man(0, 0, 0), Games.man(1, 2, 47));
            int cell = column;
            if (column <= 4) {
                Doc.due("distance " + column, column <= 1 ? 1 : 0, game.throwAt(cell));
            } else {
                Doc.raises("distance " + column, IllegalArgumentException.class, () -> game.throwAt(cell));
                Doc.raises("distance " + column + ", another row", IllegalArgumentException.class, () -> game.throwAt(32 + cell));
            }
        }
        Doc.due("4 rows and 4 columns", 0, duel(text, Games.man(0, 0, 0), Games.man(1, 2, 47)).throwAt(36));
        SkirmishGrid rows = duel(text, Games.man(0, 0, 0), Games.man(1, 2, 47));
        Doc.raises("5 rows", IllegalArgumentException.class, () -> rows.throwAt(40));
        SkirmishGrid wall = duel(".#./.../...", Games.man(0, 0, 0), Games.man(1, 2, 8));
        Doc.raises("a wall that is seen", IllegalArgumentException.class, () -> wall.throwAt(1));
        Doc.raises("a cell behind it", IllegalArgumentException.class, () -> wall.throwAt(2));
        Doc.due("a barrier", 1, duel(".o./.../...", Games.man(0, 0, 0), Games.man(1, 2, 8)).throwAt(1));
    }

    private static void blast() {
        Doc.says("Each living unit of both teams, in ascending order of the numbers, whose distance from this cell is at most 1, loses 3"
                + " health, but not below 0;");
        // A soldier throws from the cell 16 at the cell 20, around which the heavies stand; 9 is at the distance 3.
        for (int cell = 0; cell < 40; cell++) {
            if (cell == 16) {
                continue;
            }
            SkirmishGrid game = duel("......../......../......../......../........", Games.man(0, 1, 16), Games.man(1, 2, cell));
            boolean isNear = Math.abs(cell / 8 - 2) <= 1 && Math.abs(cell % 8 - 4) <= 1;
            Doc.due("at " + cell, isNear ? 1 : 0, game.throwAt(20));
            Doc.due("health at " + cell, isNear ? 15 : 18, game.unit(1, 3));
        }
        SkirmishGrid both = Games.with(Games.on("...../...../.....", Games.seedWhere(6, 6, 6, 1, 6, 1, 6, 1, 6, 5, 6, 6, 6, 6)),
                Games.man(0, 0, 5), Games.man(1, 2, 2), Games.man(0, 2, 8), Games.man(1, 2, 13));
        both.begin();
        Doc.due("both teams", 3, both.throwAt(8));
        Doc.due("in ascending order", "8,0,8 6,1,1 6,2,1 6,3,1", tail(both, 4));
        SkirmishGrid walls = duel("...#./...#./...#.", Games.man(0, 1, 5), Games.man(1, 2, 9));
        Doc.due("walls do not matter there", 0, walls.throwAt(7));
    }

    private static SkirmishGrid weakened(int second, int third) {
        SkirmishGrid game = duel("...../...../.....", Games.man(0, 0, 0), Games.man(1, 3, 4), 20, 15, 4, second, 6, third);
        Doc.due("damage", 2 + second, game.attack(1));
        return game;
    }

    private static void blastLoss() {
        Doc.says("loses 3 health, but not below 0;");
        for (int left = 1; left <= 4; left++) {
            SkirmishGrid game = weakened(5 - left, 5);
            Doc.due("before", left, game.unit(1, 3));
            Doc.due("one loses health, with " + left, 1, game.throwAt(4));
            Doc.due("after " + left, Math.max(0, left - 3), game.unit(1, 3));
            Doc.due("over with " + left, left > 3 ? 1 : 2, game.condition());
            Doc.due("events with " + left, left > 3 ? "8,0,4 6,1,1" : "8,0,4 4,1,0", tail(game, 2));
            Doc.due("stunned with " + left, left > 3 ? 1 : 0, game.unit(1, 8));
        }
        // A grenade that finds only a dead unit concerns nobody.
        SkirmishGrid dead = Games.with(Games.on("...../...../.....", Games.seedWhere(6, 6, 6, 1, 6, 1, 20, 20, 4, 4)),
                Games.man(0, 1, 0), Games.man(1, 3, 4), Games.man(1, 2, 10));
        until(begun(dead), 0);
        dead.attack(1);
        Doc.due("only living units", 0, dead.throwAt(4));
        Doc.due("one event", "4,1,0 8,0,4", tail(dead, 2));
    }

    private static SkirmishGrid begun(SkirmishGrid game) {
        game.begin();
        return game;
    }

    private static void blastDie() {
        Doc.says("if it lives then, it rolls a die with 6 sides, and with the result 5 or 6 the duration of its being stunned becomes 1,"
                + " if it was 0.");
        for (int result = 1; result <= 6; result++) {
            SkirmishGrid game = weakened(1, result);
            game.throwAt(4);
            Doc.due("result " + result, result >= 5 ? 1 : 0, game.unit(1, 8));
            Doc.due("event " + result, result >= 5 ? "6,1,1" : "8,0,4", tail(game, 1));
        }
        // Unit 1 dies and rolls no die, so that the first one is unit 2's.
        SkirmishGrid dead = Games.with(Games.on("...../...../.....", Games.seedWhere(6, 6, 6, 1, 6, 1, 20, 15, 4, 4, 6, 6, 6, 1, 6, 1)),
                Games.man(0, 0, 0), Games.man(1, 3, 4), Games.man(1, 2, 3));
        dead.begin();
        dead.attack(1);
        Doc.due("two", 2, dead.throwAt(4));
        Doc.due("the first die is unit 2's", "0 1", dead.unit(1, 8) + " " + dead.unit(2, 8));
        until(dead, 2);
        dead.endTurn();
        Doc.due("the next dice are the rolls", "9 3", dead.unit(0, 7) + " " + dead.unit(2, 7));
    }

    // Events and commands.

    private static void eventKinds() {
        Doc.says("1, a unit has moved, the cell where it is then; 2, a unit has attacked and hit, the damage; 3, it has attacked and missed,"
                + " the target; 4, a unit does not live any more, 0; 5, a unit was burning at the beginning of its turn, 2; 6, a unit was"
                + " stunned by a grenade, the duration; 7, a unit reacts, the moving unit; 8, a unit has thrown a grenade, the cell; 9, a"
                + " round begins, where the unit is -1, the number of the round.");
        SkirmishGrid game = duel(".^./.../...", Games.man(0, 0, 0), Games.man(1, 2, 8), 20, 1, 6, 5);
        game.attack(1);
        game.throwAt(8);
        Doc.due("9, 3, 8 and 6", "9,-1,1 3,0,1 8,0,8 6,1,1", Games.events(game));
        game.endTurn();
        game.endTurn();
        game.move(1);
        game.endTurn();
        game.endTurn();
        Doc.due("1 and 5", "9,-1,2 1,0,1 9,-1,3 5,0,2", tail(game, 4));
        game.guard();
        game.watch();
        game.undo();
        game.reload();
        game.endTurn();
        Doc.due("none for guard, watch, reload, endTurn and undo", "9,-1,3 5,0,2", tail(game, 2));
        Doc.says("1 comes at the end of a move, also if the unit does not live any more then; 4 comes directly after the event that is the"
                + " reason, where 8 is followed by the events 4 and 6 of the units that the grenade concerns.");
        SkirmishGrid killed = watching(".../.../...", Games.man(0, 3, 0), Games.man(1, 3, 8), 20, 20, 4, 4);
        Doc.due("where it died", 5, killed.move(2));
        Doc.due("7, 2, 4 and 1", "9,-1,1 7,0,1 2,0,16 4,1,0 1,1,5", Games.events(killed));
        Doc.due("over", 2, killed.condition());
    }

    private static void latestEvents() {
        Doc.says("The latest 40 events are kept.");
        SkirmishGrid game = Games.with(Games.on(".^./.../...", 5), Games.man(0, 0, 0), Games.man(1, 2, 8));
        Doc.due("none", 0, game.eventCount());
        game.begin();
        for (int round = 2; round <= 38; round++) {
            game.endTurn();
            game.endTurn();
        }
        Doc.due("38", 38, game.eventCount());
        game.move(1);
        Doc.due("39", 39, game.eventCount());
        game.endTurn();
        String before = Games.events(game);
        game.endTurn();
        // The round's event is the 40th one, and the one of the burning the 41st.
        Doc.due("40 of 41", 40, game.eventCount());
        Doc.due("the oldest one", "9 -1 2", game.event(0, 0) + " " + game.event(0, 1) + " " + game.event(0, 2));
        Doc.due("the latest ones", "1,0,1 9,-1,39 5,0,2", tail(game, 3));
        Doc.raises("index 40", IndexOutOfBoundsException.class, () -> game.event(40, 0));
        game.undo();
        Doc.due("39 after undo", 39, game.eventCount());
        Doc.due("the oldest one is back", 1, game.event(0, 2));
        Doc.due("all others too", before, Games.events(game));
        Doc.raises("index 39 after undo", IndexOutOfBoundsException.class, () -> game.event(39, 0));
    }

    private static void commands() {
        Doc.says("The commands are the successful calls of move, attack, throwAt, guard, watch, reload and endTurn since the fight began.");
        SkirmishGrid game = Games.with(Games.on(".../.../...", 5), Games.man(0, 0, 0), Games.man(1, 2, 8));
        Doc.raises("refused before the fight", UnsupportedOperationException.class, () -> game.endTurn());
        game.begin();
        Doc.due("begin is none", 0, game.commandCount());
        Doc.raises("refused move", IllegalArgumentException.class, () -> game.move(0));
        Doc.raises("refused attack", IllegalArgumentException.class, () -> game.attack(0));
        Doc.raises("refused throw", IndexOutOfBoundsException.class, () -> game.throwAt(9));
        Doc.due("refused ones are none", 0, game.commandCount());
        Doc.raises("and cannot be undone", IllegalStateException.class, () -> game.undo());
        game.guard();
        Doc.raises("refused guard", IllegalStateException.class, () -> game.guard());
        Doc.due("one", 1, game.commandCount());
        Doc.due("undo leaves none", 0, game.undo());
        Doc.due("none", 0, game.commandCount());
        Doc.due("not guarding", 0, game.unit(0, 10));
    }

    private static void latestCommands() {
        Doc.says("Whenever a command is carried out, only the latest 8 commands can be undone from then on.");
        for (int count = 0; count <= 18; count++) {
            SkirmishGrid game = Games.with(Games.on(".../.../...", 5), Games.man(0, 0, 0), Games.man(1, 2, 8));
            game.begin();
            for (int command = 0; command < count; command++) {
                game.endTurn();
            }
            int most = Math.min(8, count);
            for (int left = most - 1; left >= 0; left--) {
                Doc.due(count + " commands", left, game.undo());
            }
            Doc.raises(count + " commands, too many", IllegalStateException.class, () -> game.undo());
            Doc.due(count + " commands, the rest", count - most, game.commandCount());
            Doc.due(count + " commands, the round", 1 + (count - most) / 2, game.round());
        }
        Doc.says("A command that is carried out can be undone, and of those that could be undone before it, only the latest 7 still can.");
        for (int undone = 0; undone <= 8; undone++) {
            for (int again = 0; again <= 9; again++) {
                SkirmishGrid game = Games.with(Games.on(".../.../...", 5), Games.man(0, 0, 0), Games.man(1, 2, 8));
                game.begin();
                for (int command = 0; command < 10; command++) {
                    game.endTurn();
                }
                for (int i = 0; i < undone; i++) {
                    game.undo();
                }
                for (int i = 0; i < again; i++) {
                    game.endTurn();
                }
                int can = Math.min(8, 8 - undone + again);
                String what = undone + " undone and " + again + " more";
                for (int left = can - 1; left >= 0; left--) {
                    Doc.due(what, left, game.undo());
                }
                Doc.raises(what + ", too many", IllegalStateException.class, () -> game.undo());
                Doc.due(what + ", the rest", 10 - undone + again - can, game.commandCount());
            }
        }
    }

    private static void details() {
        Doc.says("A unit can guard and watch at the same time.");
        SkirmishGrid game = duel(".../.../...", Games.man(0, 0, 0), Games.man(1, 2, 8));
        game.guard();
        Doc.due("watch with the other action", 1, game.watch());
        Doc.due("both", "1 1", game.unit(0, 10) + " " + game.unit(0, 11));
        Doc.says("A unit that is stunned already is not stunned by a grenade, so that there is no event.");
        SkirmishGrid stunned = Games.with(Games.on("...../...../.....", Games.seedWhere(6, 6, 6, 5, 6, 1, 6, 5, 6, 5)),
                Games.man(0, 0, 0), Games.man(0, 0, 4), Games.man(1, 2, 12));
        stunned.begin();
        stunned.throwAt(12);
        Doc.due("stunned", "6,2,1", tail(stunned, 1));
        stunned.endTurn();
        stunned.throwAt(12);
        Doc.due("no second event", "6,2,1 8,1,12", tail(stunned, 2));
        Doc.due("duration", 1, stunned.unit(2, 8));
        Doc.says("Units that do not live any more stay in the order of the round");
        SkirmishGrid dead = Games.with(Games.on(".../.../...", Games.seedWhere(6, 6, 6, 1, 6, 1, 20, 20, 4, 4)),
                Games.man(0, 3, 0), Games.man(1, 3, 4), Games.man(1, 2, 8));
        dead.begin();
        String before = "" + dead.order(0) + dead.order(1) + dead.order(2);
        dead.attack(1);
        Doc.due("order", before, "" + dead.order(0) + dead.order(1) + dead.order(2));
        Doc.due("roll", 7, dead.unit(1, 7));
        Doc.says("Without units, a stored row has no elements.");
        SkirmishGrid empty = new SkirmishGrid();
        Doc.due("ints", 0, empty.storeHealths(0, true));
        Doc.due("floats", 0, empty.storeHealths(1, false));
        Doc.raises("element 0 of ints", NoSuchElementException.class, () -> empty.storedBits(0, 0));
        Doc.raises("element 0 of floats", NoSuchElementException.class, () -> empty.storedBits(1, 0));
        Doc.raises("it is stored all the same", UnsupportedOperationException.class, () -> empty.copyHealths(0, 0));
    }

    // What the promises say of boundaries besides their exceptions.

    private static void roundAndCondition() {
        Doc.says("Returns the number of the round, from 1, or 0 if the fight has not begun.");
        SkirmishGrid game = Games.with(Games.on(".../.../...", 5), Games.man(0, 0, 0), Games.man(1, 2, 8));
        Doc.due("before", 0, game.round());
        game.begin();
        Doc.due("first", 1, game.round());
        Doc.says("Returns 0 if it has not begun, 1 if it goes on, 2 if only units of team 0 live, 3 if only units of team 1 live, 4 if no unit"
                + " lives.");
        Doc.due("new", 0, new SkirmishGrid().condition());
        Doc.due("only one team, not begun", 0, Games.with(new SkirmishGrid(), Games.man(1, 0, 0)).condition());
        Doc.due("goes on", 1, game.condition());
        Doc.due("team 0", 2, EndTest.wonBy(0).condition());
        Doc.due("team 1", 3, EndTest.wonBy(1).condition());
        Doc.due("nobody", 4, EndTest.wonByNobody().condition());
        Doc.says("6 for its actions, 0 if it is not its turn, 7 for its roll in this round, 0 if it has none,");
        SkirmishGrid before = Games.with(new SkirmishGrid(), Games.man(0, 0, 0), Games.man(1, 2, 24));
        Doc.due("before the fight", "0 0 0 0", before.unit(0, 6) + " " + before.unit(1, 6) + " " + before.unit(0, 7) + " " + before.unit(1, 7));
        before.begin();
        Doc.due("in the fight", "2 0", before.unit(0, 6) + " " + before.unit(1, 6));
        Doc.says("Returns the number of units, those that do not live included.");
        Doc.due("one dead", 2, EndTest.wonBy(0).unitCount());
        Doc.due("three dead", 3, EndTest.wonByNobody().unitCount());
    }

    private static void lookingAhead() {
        Doc.says("Returns the costs of the path of the unit that has its turn to a cell, however great they are.");
        SkirmishGrid game = duel("~~~~~~~~/#######~/~~~~~~~~", Games.man(0, 2, 0), Games.man(1, 2, 8 * 2 + 7));
        Doc.due("far beyond the speed", 16, game.costs(15));
        Doc.says("Returns the costs, 0 for its own cell.");
        Doc.due("own cell", 0, game.costs(0));
        Doc.says("the index, from 0 for the first cell that it enters");
        Doc.due("index 0", 1, game.pathCell(15, 0));
        Doc.due("last index", 15, game.pathCell(15, 7));
        Doc.raises("one more", NoSuchElementException.class, () -> game.pathCell(15, 8));
        Doc.says("Ammunition, actions and turns do not matter.");
        SkirmishGrid used = duel(".../.../...", Games.man(0, 3, 0), Games.man(1, 2, 8), 20, 1, 20, 1);
        double chance = used.chance(1, 0);
        used.attack(1);
        used.attack(1);
        Doc.due("no actions", 19 / 20.0, used.chance(0, 1));
        Doc.due("not its turn", chance, used.chance(1, 0));
        used.endTurn();
        until(used, 0);
        used.attack(1);
        Doc.due("no ammunition", 19 / 20.0, used.chance(0, 1));
        Doc.due("no ammunition, mean damage", true, used.meanDamage(0, 1) > 0);
        Doc.says("of the units that it can attack, without regard to ammunition and actions, the one with the greatest mean damage;");
        Doc.due("no ammunition, best target", 1, used.bestTarget());
        Doc.says("That health cannot be below 0 does not matter.");
        SkirmishGrid weak = weakened(4, 1);
        Doc.due("health", 1, weak.unit(1, 3));
        Doc.due("8 to 19 hit for 18 in all, and 20 for 36", (12 * 18 + 36) / 80.0, weak.meanDamage(0, 1));
    }

    private static void properties() {
        Doc.says("8 for the duration of being stunned, 9 for that of burning, 10 for 1 if it guards, otherwise 0, 11 for 1 if it watches,"
                + " otherwise 0");
        SkirmishGrid game = duel(".^./.../...", Games.man(0, 1, 0), Games.man(1, 2, 8), 6, 5);
        game.throwAt(0);
        Doc.due("stunned", "1 0 0 0", game.unit(0, 8) + " " + game.unit(0, 9) + " " + game.unit(0, 10) + " " + game.unit(0, 11));
        game.move(1);
        Doc.due("burning too", "1 2 0 0", game.unit(0, 8) + " " + game.unit(0, 9) + " " + game.unit(0, 10) + " " + game.unit(0, 11));
        game.undo();
        game.guard();
        Doc.due("guarding", "1 0 1 0", game.unit(0, 8) + " " + game.unit(0, 9) + " " + game.unit(0, 10) + " " + game.unit(0, 11));
        game.undo();
        game.watch();
        Doc.due("watching", "1 0 0 1", game.unit(0, 8) + " " + game.unit(0, 9) + " " + game.unit(0, 10) + " " + game.unit(0, 11));
        Doc.says("Returns the unit that has the first turn.");
        for (int first = 1; first <= 6; first++) {
            for (int second = 1; second <= 6; second++) {
                SkirmishGrid two = Games.with(Games.on(".../.../...", Games.seedWhere(6, first, 6, second)), Games.man(0, 1, 0),
                        Games.man(1, 3, 8));
                int due = first + 5 >= second + 6 ? 0 : 1;
                Doc.due("rolls " + (first + 5) + " and " + (second + 6), due, two.begin());
                Doc.due("current", due, two.current());
                Doc.due("order", due + " " + (1 - due), two.order(0) + " " + two.order(1));
            }
        }
    }

    private static void chances() {
        Doc.says("the number of results of the die with 20 sides with which it hits, divided by 20, both converted to double.");
        Doc.says("the sum of the damages, 0 if it misses, over all pairs of results of both dice, divided by 80, both converted to double.");
        String[] grids = {"......../......../........", "......../......../oooooooo", "......../......../########"};
        for (int kind = 0; kind < 4; kind++) {
            for (int other = 0; other < 4; other++) {
                for (int cover = 0; cover < 3; cover++) {
                    for (int column = 1; column <= new int[] {5, 6, 4, 7}[kind]; column++) {
                        // What is below the target covers it against those below alone.
                        SkirmishGrid game = Games.with(Games.on(grids[cover], 1), Games.man(0, kind, 8), Games.man(1, other, 8 + column));
                        lookAt("in the open", game, kind, other, 8 + column - AIM[kind]);
                    }
                    SkirmishGrid near = Games.with(Games.on(grids[cover].substring(18) + "/......../........", 1),
                            Games.man(0, kind, 8 + 7), Games.man(1, other, 8 + 4));
                    lookAt("beside the cover", near, kind, other, 8 + 3 - AIM[kind]);
                    String above = new String[] {".", "o", "#"}[cover];
                    SkirmishGrid covered = Games.with(Games.on("......../.." + above + "...../........", 1), Games.man(0, kind, 8),
                            Games.man(1, other, 18));
                    lookAt("in the cover " + cover, covered, kind, other, 8 + 2 + 3 * cover - AIM[kind]);
                }
            }
        }
    }

    /** A result of at least this number hits, but for 1 and 20. */
    private static void lookAt(String what, SkirmishGrid game, int kind, int other, int needed) {
        int hits = 0;
        int sum = 0;
        for (int result = 1; result <= 20; result++) {
            if (result == 20 || result != 1 && result >= needed) {
                hits++;
                for (int second = 1; second <= 4; second++) {
                    sum += Math.max(1, second + POWER[kind] - ARMOR[other]) * (result == 20 ? 2 : 1);
                }
            }
        }
        Doc.due(what + ", chance of " + kind + " against " + other, (double) hits / (double) 20, game.chance(0, 1));
        Doc.due(what + ", mean damage of " + kind + " against " + other, (double) sum / (double) 80, game.meanDamage(0, 1));
    }

    private static void bestTarget() {
        Doc.says("of several, the one with the least health; and of several of these, the one with the lowest number.");
        // A soldier has soldiers around it, all at the distance 1; a grenade and hits make their healths differ.
        SkirmishGrid equal = Games.with(Games.on("...../...../.....", Games.seedWhere(6, 6, 6, 1, 6, 1, 6, 1, 20, 15, 4, 1, 20, 15, 4, 1)),
                Games.man(0, 1, 7), Games.man(1, 1, 6), Games.man(1, 1, 8), Games.man(1, 1, 2));
        Doc.due("the soldier is first", 0, equal.begin());
        Doc.due("equal healths", 1, equal.bestTarget());
        equal.attack(3);
        Doc.due("the least health", 3, equal.bestTarget());
        equal.attack(2);
        Doc.due("two with the least health", "9 9", equal.unit(2, 3) + " " + equal.unit(3, 3));
        Doc.due("the lowest number of them, with no actions", 2, equal.bestTarget());
        SkirmishGrid damage = Games.with(Games.on("...../...../.....", Games.seedWhere(6, 6, 6, 1, 6, 1)),
                Games.man(0, 1, 7), Games.man(1, 2, 6), Games.man(1, 1, 9));
        until(begun(damage), 0);
        Doc.due("the greater mean damage comes first", 2, damage.bestTarget());
        Doc.due("though it is farther", true, damage.chance(0, 2) < damage.chance(0, 1));
        SkirmishGrid unseen = Games.with(Games.on("...../..#../.....", Games.seedWhere(6, 6, 6, 1, 6, 1)),
                Games.man(0, 1, 2), Games.man(1, 3, 12), Games.man(1, 2, 3));
        until(begun(unseen), 0);
        Doc.due("only those that it can attack", 2, unseen.bestTarget());
        SkirmishGrid zero = Games.with(Games.on(".../.../...", 1), Games.man(0, 2, 0), Games.man(1, 0, 8));
        Doc.due("the scout is first", 1, zero.begin());
        Doc.due("unit 0", 0, zero.bestTarget());
        SkirmishGrid first = Games.with(Games.on(".../.../...", 1), Games.man(0, 2, 0), Games.man(1, 0, 4), Games.man(0, 2, 8));
        Doc.due("the scout is first", 1, first.begin());
        Doc.due("unit 0 before an equal one", 0, first.bestTarget());
    }

    private static void answersOfCommands() {
        Doc.says("Returns the damage, 0 if it misses.");
        Doc.due("hit", 1 + 3 - 1, duel(".../.../...", Games.man(0, 1, 0), Games.man(1, 1, 8), 20, 15, 4, 1).attack(1));
        Doc.due("missed", 0, duel(".../.../...", Games.man(0, 1, 0), Games.man(1, 1, 8), 20, 2).attack(1));
        Doc.says("Lets the unit that has its turn get all ammunition of the beginning, for 1 action. Returns the ammunition that it had.");
        SkirmishGrid game = duel(".../.../...", Games.man(0, 3, 0), Games.man(1, 2, 8), 20, 1, 20, 1);
        Doc.due("full", 3, game.reload());
        game.undo();
        game.attack(1);
        game.attack(1);
        game.endTurn();
        until(game, 0);
        game.attack(1);
        Doc.due("none", 0, game.reload());
        Doc.due("all again", "3 0", game.unit(0, 4) + " " + game.unit(0, 6));
        Doc.says("A turn does not end by itself when there are no actions left, but it does when its unit does not live any more.");
        Doc.due("no actions, its turn", 0, game.current());
        Doc.says("Returns the number of actions that it uses.");
        game.endTurn();
        Doc.due("both", 2, game.watch());
        game.undo();
        game.guard();
        Doc.due("the last one", 1, game.watch());
        Doc.says("Returns the number of actions that it still has.");
        game.undo();
        game.undo();
        Doc.due("one is left", 1, game.guard());
        game.undo();
        game.reload();
        Doc.due("none is left", 0, game.guard());
        Doc.says("Returns the unit that has its turn then, or -1 if the fight is over.");
        SkirmishGrid fire = duel(".^./.../...", Games.man(0, 3, 0), Games.man(1, 1, 5), 20, 15, 4, 3, 6, 6, 6, 1);
        fire.move(1);
        Doc.due("the other one", 1, fire.endTurn());
        fire.attack(0);
        Doc.due("over by fire", -1, fire.endTurn());
        Doc.due("nobody is left of team 0", 3, fire.condition());
    }

    private static void undo() {
        Doc.says("everything but the buffer, the error position, the rows of healths and the snapshot is as it was before it.");
        SkirmishGrid game = duel(".../.../...", Games.man(0, 3, 0), Games.man(1, 3, 8), 20, 20, 4, 4);
        String before = Games.state(game);
        game.attack(1);
        Doc.due("over", 2, game.condition());
        Games.type(game, "..");
        game.storeHealths(0, true);
        game.snapshot();
        Doc.due("none left", 0, game.undo());
        Doc.due("a fight that was over goes on", before, Games.state(game));
        Doc.due("the dice fall again as they did", 16, game.attack(1));
        game.undo();
        Doc.due("buffer", 3, game.append('.'));
        Doc.due("row", 0, game.storedBits(0, 1));
        game.restore();
        Doc.due("snapshot", 2, game.condition());
        Doc.says("compares the outcome with the present units, their turns, z, and the events. The state stays as it is. Returns whether"
                + " everything is the same.");
        Doc.due("after restore", true, game.isReplayed());
        SkirmishGrid asked = duel(".^./.../...", Games.man(0, 0, 0), Games.man(1, 2, 8), 20, 15, 4, 1);
        SkirmishGrid twin = duel(".^./.../...", Games.man(0, 0, 0), Games.man(1, 2, 8), 20, 15, 4, 1);
        for (int i = 0; i < 6; i++) {
            Doc.due("before and after " + i + " commands", true, asked.isReplayed());
            Doc.due("the same answer", command(twin, i), command(asked, i));
            Doc.due("the same state", Games.state(twin), Games.state(asked));
        }
        everyCommand();
        Doc.says("Carries out all commands once more, from the beginning of the fight on,");
        Doc.due("the same undo", twin.undo(), asked.undo());
        Doc.due("the same state after undo", Games.state(twin), Games.state(asked));
        Doc.due("replayed after undo", true, asked.isReplayed());
    }

    /** A fight of six units with fire, whose commands are told by a number; refused ones are part of it. */
    private static SkirmishGrid brawl(int seed, int commands) {
        SkirmishGrid game = Games.with(Games.on("..^.../.o..~./..#.../.^..o.", seed), Games.man(1, 1, 4), Games.man(0, 0, 0),
                Games.man(1, 3, 23), Games.man(0, 2, 12), Games.man(1, 0, 11), Games.man(0, 1, 19));
        game.begin();
        for (int number = 0; number < commands; number++) {
            brawlOn(game, seed + number);
        }
        return game;
    }

    private static String brawlOn(SkirmishGrid game, int number) {
        int any = (number * 0x9E3779B1) >>> 8;
        int cell = any / 16 % 24;
        switch (any % 9) {
            case 0: case 1: return Probe.answer(() -> game.attack(game.bestTarget()));
            case 2: case 3: return Probe.answer(() -> game.move(cell));
            case 4: return Probe.answer(() -> game.throwAt(cell));
            case 5: return Probe.answer(() -> game.watch());
            case 6: return Probe.answer(() -> any % 2 == 0 ? game.guard() : game.reload());
            default: return Probe.answer(() -> game.endTurn());
        }
    }

    /** Each command of some fights, with an object of its own as it takes many calls to look at everything. */
    private static void everyCommand() {
        Doc.says("is as it was before it.");
        for (int seed = 1; seed <= 8; seed++) {
            for (int count = 0; count < 90; count += 1 + count / 30) {
                String before = Games.state(brawl(seed, count));
                SkirmishGrid game = brawl(seed, count);
                int commands = game.commandCount();
                String answer = brawlOn(game, seed + count);
                String what = "command " + count + " of the fight " + seed;
                if (game.commandCount() == commands) {
                    Doc.due(what + ", which is refused", before, Games.state(game));
                    continue;
                }
                game.undo();
                Doc.due(what, before, Games.state(game));
                Doc.due(what + " again", answer, brawlOn(game, seed + count));
                Doc.due(what + ", replayed", true, game.isReplayed());
            }
        }
    }

    private static int command(SkirmishGrid game, int number) {
        switch (number) {
            case 0: return game.attack(1);
            case 1: return game.move(1);
            case 2: return game.endTurn();
            case 3: return game.throwAt(0);
            case 4: return game.watch();
            default: return game.endTurn();
        }
    }

    private static void rows() {
        Doc.says("the sum of their healths divided by their number, both converted to float; those that do not live count, too.");
        SkirmishGrid won = EndTest.wonBy(0);
        Doc.due("all dead", 0.0f, won.meanHealth(1));
        Doc.due("the winner", 7.0f, won.meanHealth(0));
        SkirmishGrid three = Games.with(new SkirmishGrid(), Games.man(0, 0, 0), Games.man(0, 0, 1), Games.man(0, 3, 2));
        Doc.due("no whole number", 23.0f / 3.0f, three.meanHealth(0));
        Doc.says("Stores the healths of all units as a new row.");
        Doc.due("three", 3, three.storeHealths(0, true));
        three.addUnit(1, 2, 3);
        Doc.due("the row stays", "NoSuchElementException", Probe.answer(() -> three.storedBits(0, 3)));
        Doc.due("four", 4, three.storeHealths(0, false));
        Doc.due("the new one is of floats", Float.floatToIntBits(1.0f), three.storedBits(0, 3));
        Games.type(three, ".../.../...");
        three.load(1);
        Doc.due("the rows stay with load", Float.floatToIntBits(1.0f), three.storedBits(0, 3));
        Doc.due("none", 0, three.storeHealths(0, true));
        Doc.raises("a shorter row has no old elements", NoSuchElementException.class, () -> three.storedBits(0, 0));
        Doc.says("Copies the elements of a row into the other row, from index 0 on. - `from`: the row from which they are copied, 0 or 1"
                + " - `count`: the number of elements Returns true if at least one element of the other row has changed.");
        for (int from = 0; from < 2; from++) {
            for (int count = 0; count <= 3; count++) {
                SkirmishGrid game = copied(from);
                Doc.due("from " + from + ", count " + count, count > 1, game.copyHealths(from, count));
                for (int index = 0; index < 3; index++) {
                    int was = new int[] {8, 12, 18}[index];
                    int now = new int[] {8, 9, 15}[index];
                    int kept = from == 0 ? was : now;
                    int copied = from == 0 ? now : was;
                    Doc.due("element " + index + " of " + count, Float.floatToIntBits(index < count ? copied : kept),
                            game.storedBits(1 - from, index));
                    Doc.due("source " + index + " of " + count, Float.floatToIntBits(copied), game.storedBits(from, index));
                }
                Doc.due("again, count " + count, false, game.copyHealths(from, count));
            }
        }
        Doc.says("Returns the bits of an element of a row, converted to float, as by Float.floatToIntBits.");
        won.storeHealths(0, true);
        won.storeHealths(1, false);
        Doc.due("0 as an int and as a float", 0, won.storedBits(0, 1) | won.storedBits(1, 1));
        Doc.says("false for a row of floats, with the healths divided by the healths at the beginning, both converted to float");
        shares();
    }

    /** Row 1 has 8, 12 and 18, row 0 has 8, 9 and 15. */
    private static SkirmishGrid copied(int from) {
        SkirmishGrid game = Games.with(Games.on("...../...../.....", Games.seedWhere(6, 6, 6, 1, 6, 1)), Games.man(0, 0, 0),
                Games.man(1, 1, 4), Games.man(1, 2, 9));
        game.begin();
        game.storeHealths(1, true);
        game.throwAt(4);
        game.storeHealths(0, true);
        Doc.due("a row to copy from " + from, Float.floatToIntBits(from == 0 ? 15 : 18), game.storedBits(from, 2));
        return game;
    }

    /** Every health that a unit can have is looked at as a share too: attacks go on until it is dead. */
    private static void shares() {
        for (int seed = 0; seed < 60; seed++) {
            int kind = seed % 4;
            SkirmishGrid game = Games.with(Games.on(".../.../...", seed), Games.man(0, seed / 4 % 4, 0), Games.man(1, kind, 1));
            game.begin();
            for (int turn = 0; turn < 40 && game.condition() == 1; turn++) {
                if (game.current() == 0 && game.unit(0, 6) > 0 && game.unit(0, 4) > 0) {
                    game.attack(1);
                } else {
                    game.endTurn();
                }
                int health = game.unit(1, 3);
                game.storeHealths(1, false);
                Doc.due(health + " of kind " + kind, Float.floatToIntBits((float) health / (float) HEALTH[kind]), game.storedBits(1, 1));
                game.storeHealths(1, true);
                Doc.due(health + " as an int", Float.floatToIntBits((float) health), game.storedBits(1, 1));
            }
        }
    }

    private static void snapshot() {
        Doc.says("Restores all that from the snapshot, which stays available. After that no commands can be undone.");
        SkirmishGrid game = duel("#../.../...", Games.man(0, 0, 1), Games.man(1, 2, 8), 20, 15, 4, 3);
        game.guard();
        String state = Games.state(game);
        Doc.due("taken", 2, game.snapshot());
        int damage = game.attack(1);
        Doc.due("once", 2, game.restore());
        Doc.due("state", state, Games.state(game));
        Doc.raises("nothing to undo, though there is a command", IllegalStateException.class, () -> game.undo());
        Doc.due("one command", 1, game.commandCount());
        Doc.due("z", damage, game.attack(1));
        Doc.due("the new one can be undone", 0, game.undo());
        Games.type(game, ".../.../...");
        game.load(3);
        Doc.due("twice, after load", 2, game.restore());
        Doc.due("state again", state, Games.state(game));
        Doc.due("grid", '#', game.terrain(0, 0));
        Doc.due("replayed", true, game.isReplayed());
        Doc.says("Takes a snapshot of the grid, the units, the fight, z, the events and the commands.");
        for (int seed = 1; seed <= 8; seed++) {
            String what = "fight " + seed;
            SkirmishGrid fight = brawl(seed, 40);
            fight.snapshot();
            for (int i = 0; i < 6; i++) {
                fight.undo();
                brawlOn(fight, 1000 + i);
            }
            Games.type(fight, "....../....../......");
            fight.load(seed + 1);
            Games.with(fight, Games.man(0, 3, 17), Games.man(1, 0, 3), Games.man(0, 3, 5), Games.man(1, 3, 8), Games.man(0, 0, 0));
            fight.begin();
            for (int i = 0; i < 30; i++) {
                brawlOn(fight, 2000 + i);
            }
            Doc.due(what + ", units", 6, fight.restore());
            Doc.due(what + ", state", Games.state(brawl(seed, 40)), Games.state(fight));
            Doc.due(what + ", replayed", true, fight.isReplayed());
            Doc.due(what + ", grid", "^o~#", "" + fight.terrain(0, 2) + fight.terrain(1, 1) + fight.terrain(1, 4) + fight.terrain(2, 2));
            SkirmishGrid twin = brawl(seed, 40);
            for (int i = 40; i < 60; i++) {
                Doc.due(what + ", what follows", brawlOn(twin, seed + i), brawlOn(fight, seed + i));
            }
        }
        Doc.says("It replaces an earlier one. Returns the number of units.");
        SkirmishGrid empty = new SkirmishGrid();
        Doc.due("no units", 0, empty.snapshot());
        Games.with(empty, Games.man(0, 0, 0));
        Doc.due("one unit", 1, empty.snapshot());
        Games.with(empty, Games.man(1, 0, 1));
        Doc.due("the later one", 1, empty.restore());
        Doc.due("one unit is left", 1, empty.unitCount());
    }
}
