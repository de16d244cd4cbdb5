import java.util.NoSuchElementException;

/** Promises 8 to 15: addUnit, unitCount, unit, begin, condition, round, current, order. */
public final class UnitTest {
    public static void main(String[] arguments) {
        addUnit();
        unit();
        begin();
        orderOfEqualRolls();
        burningAndStunned();
        condition();
        roundsAndOrder();
        Check.finish();
    }

    private static void addUnit() {
        SkirmishGrid game = Games.on(".#o~^/...../.....", 1);
        Check.same("9 none", 0, game.unitCount());
        Check.raises("8 team -1", IndexOutOfBoundsException.class, () -> game.addUnit(-1, 0, 0));
        Check.raises("8 team 2", IndexOutOfBoundsException.class, () -> game.addUnit(2, 0, 0));
        Check.raises("8 kind -1", IndexOutOfBoundsException.class, () -> game.addUnit(0, -1, 0));
        Check.raises("8 kind 4", IndexOutOfBoundsException.class, () -> game.addUnit(0, 4, 0));
        Check.raises("8 cell -1", IndexOutOfBoundsException.class, () -> game.addUnit(0, 0, -1));
        Check.raises("8 cell 15", IndexOutOfBoundsException.class, () -> game.addUnit(0, 0, 15));
        Check.raises("8 wall", IllegalArgumentException.class, () -> game.addUnit(0, 0, 1));
        Check.same("8 first", 0, game.addUnit(0, 0, 0));
        Check.raises("8 taken", IllegalArgumentException.class, () -> game.addUnit(1, 0, 0));
        Check.same("8 barrier", 1, game.addUnit(1, 1, 2));
        Check.same("8 mud", 2, game.addUnit(0, 2, 3));
        Check.same("8 fire", 3, game.addUnit(1, 3, 4));
        Check.same("8 fire only burns who enters", 0, game.unit(3, 9));
        for (int number = 4; number < 8; number++) {
            Check.same("8 next", number, game.addUnit(1, 0, number + 4));
            Check.same("9 count", number + 1, game.unitCount());
        }
        Check.raises("8 eight units", IllegalStateException.class, () -> game.addUnit(0, 0, 14));
        Check.raises("8 the cell is looked at first", IllegalArgumentException.class, () -> game.addUnit(0, 0, 0));
        Check.same("9 refused ones do not count", 8, game.unitCount());
        SkirmishGrid begun = Games.with(Games.on(".#./.../...", 1), Games.man(0, 0, 0), Games.man(1, 0, 8));
        begun.begin();
        Check.raises("8 begun", IllegalStateException.class, () -> begun.addUnit(0, 0, 4));
        Check.raises("8 begun, a wall", IllegalArgumentException.class, () -> begun.addUnit(0, 0, 1));
    }

    private static void unit() {
        int[][] kinds = {{8, 6, 1}, {12, 5, 1}, {18, 4, 1}, {7, 3, 0}};
        SkirmishGrid game = new SkirmishGrid();
        for (int kind = 0; kind < 4; kind++) {
            game.addUnit(kind % 2, kind, 2 * kind);
            int[] due = {kind % 2, kind, 2 * kind, kinds[kind][0], kinds[kind][1], kinds[kind][2], 0, 0, 0, 0, 0, 0};
            for (int what = 0; what < 12; what++) {
                Check.same("10 kind " + kind + " property " + what, due[what], game.unit(kind, what));
            }
        }
        Check.raises("10 unit -1", IndexOutOfBoundsException.class, () -> game.unit(-1, 0));
        Check.raises("10 unit 4", IndexOutOfBoundsException.class, () -> game.unit(4, 0));
        Check.raises("10 property -1", IllegalArgumentException.class, () -> game.unit(0, -1));
        Check.raises("10 property 12", IllegalArgumentException.class, () -> game.unit(3, 12));
        Check.raises("10 the unit is looked at first", IndexOutOfBoundsException.class, () -> game.unit(4, 12));
        game.begin();
        int current = game.current();
        for (int number = 0; number < 4; number++) {
            Check.same("10 actions of " + number, number == current ? 2 : 0, game.unit(number, 6));
        }
        game.guard();
        Check.same("10 guards", 1, game.unit(current, 10));
        Check.same("10 one action left", 1, game.unit(current, 6));
        game.watch();
        Check.same("10 watches", 1, game.unit(current, 11));
        Check.same("10 guards and watches", 1, game.unit(current, 10));
        Check.same("10 no action left", 0, game.unit(current, 6));
    }

    private static void begin() {
        SkirmishGrid game = new SkirmishGrid();
        Check.raises("11 no units", IllegalStateException.class, () -> game.begin());
        game.addUnit(1, 0, 0);
        Check.raises("11 only team 1", IllegalStateException.class, () -> game.begin());
        Check.same("12 not begun", 0, game.condition());
        Check.raises("14 not begun", NoSuchElementException.class, () -> game.current());
        Check.raises("15 not begun", NoSuchElementException.class, () -> game.order(0));
        game.addUnit(0, 2, 24);
        Check.same("11 the scout is always before the heavy", 0, game.begin());
        Check.same("12 begun", 1, game.condition());
        Check.same("13 first round", 1, game.round());
        Check.same("14 current", 0, game.current());
        Check.same("11 event", "9,-1,1", Games.events(game));
        Check.raises("11 again", IllegalStateException.class, () -> game.begin());
        SkirmishGrid alone = Games.with(new SkirmishGrid(), Games.man(0, 0, 0));
        Check.raises("11 only team 0", IllegalStateException.class, () -> alone.begin());
        Check.same("13 not begun", 0, alone.round());
        // z is 0, 12345, ..: the dice can be told by hand for the seed 0.
        SkirmishGrid zero = Games.with(Games.on(".../.../...", 0), Games.man(0, 1, 0), Games.man(1, 1, 8));
        zero.begin();
        Check.same("11 the first die of the seed 0 is 1", 1 + 5, zero.unit(0, 7));
        int z = 12345 * 1103515245 + 12345;
        Check.same("11 the second one", (z >>> 16) % 6 + 1 + 5, zero.unit(1, 7));
    }

    private static void orderOfEqualRolls() {
        int seed = Games.seedWhere(6, 1, 6, 4, 6, 1, 6, 4);
        SkirmishGrid game = Games.with(Games.on(".../.../...", seed),
                Games.man(0, 1, 0), Games.man(1, 1, 1), Games.man(1, 1, 2), Games.man(0, 1, 3));
        Check.same("11 greatest roll, lowest number", 1, game.begin());
        int[] due = {1, 3, 0, 2};
        for (int i = 0; i < 4; i++) {
            Check.same("15 order " + i, due[i], game.order(i));
        }
        Check.same("10 roll", 9, game.unit(3, 7));
        Check.raises("15 index 4", NoSuchElementException.class, () -> game.order(4));
        Check.raises("15 index -1", NoSuchElementException.class, () -> game.order(-1));
        Check.raises("15 greatest index", NoSuchElementException.class, () -> game.order(Integer.MAX_VALUE));
    }

    private static void burningAndStunned() {
        // The soldier goes through fire, which costs it 2 health at its next turn, and then no more.
        int first = Games.seedWhere(6, 6, 6, 1);
        SkirmishGrid game = Games.with(Games.on(".^./.../.../...", first), Games.man(0, 1, 0), Games.man(1, 2, 11));
        Check.same("11 the soldier is first", 0, game.begin());
        game.move(2);
        Check.same("10 burning", 2, game.unit(0, 9));
        game.endTurn();
        Check.same("10 burning after its turn", 1, game.unit(0, 9));
        if (game.current() == 1) {
            game.endTurn();
        }
        for (int i = 0; i < 2 && game.current() != 0; i++) {
            game.endTurn();
        }
        Check.same("11 burnt at the beginning", 10, game.unit(0, 3));
        Check.same("10 burning goes on in the turn", 1, game.unit(0, 9));
        game.endTurn();
        Check.same("10 burning is over", 0, game.unit(0, 9));
        game.endTurn();
        if (game.current() != 0) {
            game.endTurn();
        }
        Check.same("11 burnt no more", 10, game.unit(0, 3));
        // Rolls 1 and 6, so that the soldier is before the scout; the stunned scout gets no actions.
        int seed = Games.seedWhere(6, 6, 6, 1, 6, 5, 6, 6, 6, 1, 6, 1);
        SkirmishGrid stun = Games.with(Games.on(".../.../...", seed), Games.man(0, 1, 0), Games.man(1, 0, 2));
        Check.same("11 soldier first", 0, stun.begin());
        stun.throwAt(2);
        Check.same("10 stunned", 1, stun.unit(1, 8));
        Check.same("27 next", 1, stun.endTurn());
        Check.same("10 no actions while stunned", 0, stun.unit(1, 6));
        Check.same("10 stunned in its turn", 1, stun.unit(1, 8));
        Check.raises("24 stunned", IllegalStateException.class, () -> stun.guard());
        stun.endTurn();
        Check.same("10 not stunned after it", 0, stun.unit(1, 8));
    }

    private static void condition() {
        SkirmishGrid game = Games.with(Games.on(".../.../...", 1), Games.man(0, 3, 0), Games.man(1, 0, 4));
        Check.same("12 not begun", 0, game.condition());
        game.begin();
        Check.same("12 goes on", 1, game.condition());
        SkirmishGrid won = EndTest.wonBy(0);
        Check.same("12 team 0", 2, won.condition());
        Check.raises("14 over", NoSuchElementException.class, () -> won.current());
        Check.same("12 team 1", 3, EndTest.wonBy(1).condition());
        Check.same("12 nobody", 4, EndTest.wonByNobody().condition());
    }

    private static void roundsAndOrder() {
        SkirmishGrid won = EndTest.wonBy(0);
        Check.same("13 the last round stays", true, won.round() >= 1);
        Check.same("15 the last order stays", true, won.order(0) >= 0 && won.order(1) >= 0);
        Check.raises("11 over is begun", IllegalStateException.class, () -> won.begin());
        SkirmishGrid game = Games.with(Games.on(".../.../...", 5), Games.man(0, 0, 0), Games.man(1, 2, 8));
        game.begin();
        for (int round = 1; round < 6; round++) {
            Check.same("13 round", round, game.round());
            Check.same("14 scout", 0, game.current());
            game.endTurn();
            Check.same("14 heavy", 1, game.current());
            Check.same("13 same round", round, game.round());
            game.endTurn();
        }
    }
}
