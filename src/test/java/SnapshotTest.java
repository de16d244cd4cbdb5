import java.util.NoSuchElementException;

/** Promises 37 and 38: snapshot, restore. */
public final class SnapshotTest {
    public static void main(String[] arguments) {
        none();
        beforeTheFight();
        inTheFight();
        otherGrid();
        Check.finish();
    }

    private static void none() {
        SkirmishGrid game = new SkirmishGrid();
        Check.raises("38 none", IllegalStateException.class, () -> game.restore());
        Check.same("37 no units", 0, game.snapshot());
        game.addUnit(0, 0, 0);
        Check.same("38 no units", 0, game.restore());
        Check.same("9 no units", 0, game.unitCount());
    }

    private static void beforeTheFight() {
        SkirmishGrid game = Games.with(new SkirmishGrid(), Games.man(0, 0, 0), Games.man(1, 2, 24));
        Check.same("37 units", 2, game.snapshot());
        game.begin();
        int roll = game.unit(0, 7);
        game.move(1);
        Check.same("38 units", 2, game.restore());
        Check.same("12 not begun", 0, game.condition());
        Check.same("30 no commands", 0, game.commandCount());
        Check.raises("31 none", IllegalStateException.class, () -> game.undo());
        Check.same("10 cell", 0, game.unit(0, 2));
        game.addUnit(1, 3, 20);
        Check.same("11 again", true, game.begin() >= 0);
        Check.same("38 z is back", roll, game.unit(0, 7));
        Check.same("32 replayed", true, game.isReplayed());
        Check.same("38 the snapshot stays", 2, game.restore());
    }

    private static void inTheFight() {
        SkirmishGrid game = Games.with(new SkirmishGrid(), Games.man(0, 0, 0), Games.man(1, 2, 1));
        game.begin();
        game.attack(1);
        game.guard();
        String taken = Games.state(game);
        game.snapshot();
        game.endTurn();
        game.attack(0);
        String later = Games.state(game);
        game.restore();
        Check.same("38 state", taken, Games.state(game));
        Check.raises("38 no undo", IllegalStateException.class, () -> game.undo());
        Check.same("38 replayed", true, game.isReplayed());
        game.endTurn();
        game.attack(0);
        Check.same("38 the dice fall as before", later, Games.state(game));
        Check.same("31 the new ones can be undone", 1, game.undo());
        Check.same("31 and", 0, game.undo());
        Check.same("31 back at the snapshot", taken, Games.state(game));
        game.endTurn();
        game.snapshot();
        Check.same("37 undo stays possible", 0, game.undo());
        Check.same("31 before the snapshot", taken, Games.state(game));
        game.restore();
        Check.same("37 the later one replaces the earlier one", 3, game.commandCount());
    }

    private static void otherGrid() {
        SkirmishGrid game = Games.with(Games.on("#../.../...", 7), Games.man(0, 1, 1), Games.man(1, 1, 8));
        game.begin();
        game.storeHealths(0, true);
        game.append('?');
        game.snapshot();
        String taken = Games.state(game);
        Check.raises("4", IllegalArgumentException.class, () -> game.load(1));
        Games.type(game, "......../......../........");
        game.load(8);
        game.storeHealths(0, false);
        game.append('.');
        game.restore();
        Check.same("38 state", taken, Games.state(game));
        Check.same("38 grid", '#', game.terrain(0, 0));
        Check.raises("38 grid's size", IndexOutOfBoundsException.class, () -> game.terrain(0, 3));
        Check.same("38 not the buffer", 2, game.append('.'));
        Check.same("38 not the error position", 0, game.errorPosition());
        Check.raises("38 not the rows", NoSuchElementException.class, () -> game.storedBits(0, 0));
        Check.same("32 replayed", true, game.isReplayed());
    }
}
