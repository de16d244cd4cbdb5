/** Promises 28 to 32: eventCount, event, commandCount, undo, isReplayed. */
public final class UndoTest {
    public static void main(String[] arguments) {
        events();
        manyEvents();
        commandCount();
        undo();
        undoLimit();
        undoKeeps();
        isReplayed();
        Check.finish();
    }

    private static SkirmishGrid fight() {
        SkirmishGrid game = Games.with(Games.on("...../...../...../...../.....", 11), Games.man(0, 0, 0), Games.man(1, 2, 24));
        game.begin();
        return game;
    }

    private static void events() {
        SkirmishGrid game = new SkirmishGrid();
        Check.same("28 none", 0, game.eventCount());
        Check.raises("29 none", IndexOutOfBoundsException.class, () -> game.event(0, 0));
        SkirmishGrid begun = fight();
        begun.move(1);
        Check.same("28 two", 2, begun.eventCount());
        Check.same("29 kind", 1, begun.event(1, 0));
        Check.same("29 unit", 0, begun.event(1, 1));
        Check.same("29 number", 1, begun.event(1, 2));
        Check.same("29 no unit", -1, begun.event(0, 1));
        Check.raises("29 index -1", IndexOutOfBoundsException.class, () -> begun.event(-1, 0));
        Check.raises("29 index 2", IndexOutOfBoundsException.class, () -> begun.event(2, 0));
        Check.raises("29 column -1", IndexOutOfBoundsException.class, () -> begun.event(0, -1));
        Check.raises("29 column 3", IndexOutOfBoundsException.class, () -> begun.event(0, 3));
    }

    private static void manyEvents() {
        SkirmishGrid game = fight();
        for (int round = 1; round < 60; round++) {
            Check.same("28 count", Math.min(40, round), game.eventCount());
            game.endTurn();
            game.endTurn();
        }
        Check.same("28 forty", 40, game.eventCount());
        for (int i = 0; i < 40; i++) {
            Check.same("29 the latest ones", 21 + i, game.event(i, 2));
        }
        Check.raises("29 index 40", IndexOutOfBoundsException.class, () -> game.event(40, 0));
        game.undo();
        Check.same("31 the older one is back", 20, game.event(0, 2));
        Check.same("32 with forty events", true, game.isReplayed());
    }

    private static void commandCount() {
        SkirmishGrid game = fight();
        Check.same("30 none", 0, game.commandCount());
        game.move(1);
        Check.same("30 move", 1, game.commandCount());
        game.throwAt(3);
        Check.same("30 throwAt", 2, game.commandCount());
        game.endTurn();
        Check.same("30 endTurn", 3, game.commandCount());
        game.guard();
        Check.same("30 guard", 4, game.commandCount());
        game.watch();
        Check.same("30 watch", 5, game.commandCount());
        game.endTurn();
        game.reload();
        Check.same("30 reload", 7, game.commandCount());
        Check.raises("22", IllegalArgumentException.class, () -> game.attack(0));
        game.costs(3);
        game.snapshot();
        Check.same("30 others are no commands", 7, game.commandCount());
        game.undo();
        Check.same("30 undone", 6, game.commandCount());
        SkirmishGrid attack = Games.with(new SkirmishGrid(), Games.man(0, 0, 0), Games.man(1, 2, 1));
        attack.begin();
        attack.attack(1);
        Check.same("30 attack", 1, attack.commandCount());
    }

    private static void undo() {
        SkirmishGrid idle = new SkirmishGrid();
        Check.raises("31 new", IllegalStateException.class, () -> idle.undo());
        SkirmishGrid game = fight();
        Check.raises("31 begin is no command", IllegalStateException.class, () -> game.undo());
        String[] states = new String[8];
        for (int i = 0; i < 8; i++) {
            states[i] = Games.state(game);
            step(game, i);
        }
        for (int i = 7; i >= 0; i--) {
            Check.same("31 left", i, game.undo());
            Check.same("31 state before command " + i, states[i], Games.state(game));
        }
        Check.raises("31 no more", IllegalStateException.class, () -> game.undo());
        // The same commands again answer the same, as z is back too.
        for (int i = 0; i < 8; i++) {
            Check.same("31 again, command " + i, states[i], Games.state(game));
            step(game, i);
        }
    }

    private static void step(SkirmishGrid game, int number) {
        switch (number) {
            case 0: game.move(12); break;
            case 1: game.attack(1); break;
            case 2: game.endTurn(); break;
            case 3: game.throwAt(12); break;
            case 4: game.watch(); break;
            case 5: game.endTurn(); break;
            case 6: game.reload(); break;
            default: game.endTurn(); break;
        }
    }

    private static void undoLimit() {
        SkirmishGrid game = fight();
        for (int i = 0; i < 12; i++) {
            game.endTurn();
        }
        for (int left = 7; left >= 4; left--) {
            Check.same("31 of eight", left, game.undo());
        }
        Check.same("30 commands", 8, game.commandCount());
        game.endTurn();
        Check.same("31 four and the new one", 4, game.undo());
        game.endTurn();
        game.endTurn();
        Check.same("31 five", 5, game.undo());
        for (int left = 4; left >= 0; left--) {
            Check.same("31 left", left, game.undo());
        }
        Check.raises("31 no more", IllegalStateException.class, () -> game.undo());
        Check.same("30 the older ones stay", 4, game.commandCount());
        Check.same("13 round", 3, game.round());
        Check.same("32 replayed", true, game.isReplayed());
    }

    private static void undoKeeps() {
        SkirmishGrid game = fight();
        game.snapshot();
        game.move(12);
        game.attack(1);
        Games.type(game, "x");
        Check.raises("4", IllegalArgumentException.class, () -> game.load(1));
        Check.same("2 buffer", 1, game.append('.'));
        game.storeHealths(0, true);
        int bits = game.storedBits(0, 1);
        game.undo();
        Check.same("31 not the buffer", 2, game.append('.'));
        Check.same("31 not the error position", 0, game.errorPosition());
        Check.same("31 not the rows", bits, game.storedBits(0, 1));
        game.undo();
        Check.same("31 not the snapshot", 2, game.restore());
    }

    private static void isReplayed() {
        SkirmishGrid idle = Games.with(new SkirmishGrid(), Games.man(0, 0, 0), Games.man(1, 0, 1));
        Check.raises("32 not begun", IllegalStateException.class, () -> idle.isReplayed());
        SkirmishGrid game = fight();
        Check.same("32 no commands", true, game.isReplayed());
        for (int i = 0; i < 8; i++) {
            step(game, i);
            String before = Games.state(game);
            Check.same("32 command " + i, true, game.isReplayed());
            Check.same("32 the state stays", before, Games.state(game));
        }
        Check.same("32 undo stays", 7, game.undo());
        Check.same("32 after undo", true, game.isReplayed());
    }
}
