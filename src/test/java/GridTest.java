import java.util.NoSuchElementException;

/** Promises 1 to 7: a new object, append, load, errorPosition, terrain, isSeen, cover. */
public final class GridTest {
    public static void main(String[] arguments) {
        newObject();
        append();
        load();
        loadStartsAnew();
        errorPosition();
        terrain();
        isSeen();
        cover();
        Check.finish();
    }

    private static void newObject() {
        SkirmishGrid game = new SkirmishGrid();
        Check.same("1 units", 0, game.unitCount());
        Check.same("1 condition", 0, game.condition());
        Check.same("1 round", 0, game.round());
        Check.same("1 events", 0, game.eventCount());
        Check.same("1 commands", 0, game.commandCount());
        for (int row = 0; row < 5; row++) {
            for (int column = 0; column < 5; column++) {
                Check.same("1 open", '.', game.terrain(row, column));
            }
        }
        Check.raises("1 five rows", IndexOutOfBoundsException.class, () -> game.terrain(5, 0));
        Check.raises("1 five columns", IndexOutOfBoundsException.class, () -> game.terrain(0, 5));
        Games.with(game, Games.man(0, 0, 0), Games.man(1, 0, 24));
        game.begin();
        int z = 1 * 1103515245 + 12345;
        Check.same("1 seed 1", (z >>> 16) % 6 + 1 + 8, game.unit(0, 7));
        Check.same("1 buffer is empty", 1, new SkirmishGrid().append('.'));
    }

    private static void append() {
        SkirmishGrid game = new SkirmishGrid();
        Check.same("2 first", 1, game.append(' '));
        Check.same("2 last code", 2, game.append('~'));
        Check.raises("2 code 31", IllegalArgumentException.class, () -> game.append((char) 31));
        Check.raises("2 code 127", IllegalArgumentException.class, () -> game.append((char) 127));
        Check.raises("2 code 0", IllegalArgumentException.class, () -> game.append((char) 0));
        Check.raises("2 code 65535", IllegalArgumentException.class, () -> game.append((char) 65535));
        Check.same("2 refused ones are not in the buffer", 3, game.append('x'));
        for (int i = 4; i <= 71; i++) {
            Check.same("2 count", i, game.append('.'));
        }
        Check.raises("2 full", IllegalStateException.class, () -> game.append('.'));
        Check.raises("2 the code is looked at first", IllegalArgumentException.class, () -> game.append((char) 10));
    }

    private static int loaded(String text) {
        SkirmishGrid game = new SkirmishGrid();
        Games.type(game, text);
        return game.load(3);
    }

    private static void unfit(String text) {
        SkirmishGrid game = new SkirmishGrid();
        Games.type(game, text);
        Check.raises("3 size of " + text, UnsupportedOperationException.class, () -> game.load(3));
        Check.raises("3 unfit is not malformed: " + text, NoSuchElementException.class, () -> game.errorPosition());
        Check.same("3 buffer is empty after " + text, 1, game.append('.'));
    }

    private static void load() {
        Check.same("3 smallest", 33, loaded(".../.../..."));
        Check.same("3 flat", 38, loaded("......../......../........"));
        Check.same("3 high", 83, loaded(".../.../.../.../.../.../.../..."));
        String row = "........";
        Check.same("3 largest", 88, loaded(String.join("/", row, row, row, row, row, row, row, row)));
        Check.same("3 all signs", 45, loaded(".#o~^/^~o#./#####/^^^^^"));
        unfit("...");
        unfit(".../...");
        unfit("../../..");
        unfit(".");
        unfit("........./........./.........");
        unfit(".../.../.../.../.../.../.../.../...");
        unfit("./././././././././././././././././././././././././././././././././././.");
    }

    private static void loadStartsAnew() {
        SkirmishGrid game = Games.with(new SkirmishGrid(), Games.man(0, 1, 0), Games.man(1, 1, 1));
        game.begin();
        game.guard();
        game.storeHealths(0, true);
        game.snapshot();
        Games.type(game, "...x");
        String before = Games.state(game);
        Check.raises("3 malformed", IllegalArgumentException.class, () -> game.load(1));
        Games.type(game, ".../...");
        Check.raises("3 too small", UnsupportedOperationException.class, () -> game.load(1));
        Check.same("3 refused texts change nothing", before, Games.state(game));
        Check.same("3 nor the grid", '.', game.terrain(4, 4));
        Check.same("3 buffer is empty", 1, game.append('.'));
        Games.type(game, "#./o~^/...");
        Check.same("3 loaded", 33, game.load(9));
        Check.same("3 grid", '#', game.terrain(0, 1));
        Check.same("3 units", 0, game.unitCount());
        Check.same("3 events", 0, game.eventCount());
        Check.same("3 commands", 0, game.commandCount());
        Check.same("3 condition", 0, game.condition());
        Check.same("3 round", 0, game.round());
        Check.raises("3 current", NoSuchElementException.class, () -> game.current());
        Check.raises("3 order", NoSuchElementException.class, () -> game.order(0));
        Check.raises("3 undo", IllegalStateException.class, () -> game.undo());
        Check.same("3 rows stay", Float.floatToIntBits(12f), game.storedBits(0, 1));
        Check.same("3 snapshot stays", 2, game.restore());
        Check.same("3 all is back", before, Games.state(game));
        Check.same("3 the grid too", '.', game.terrain(4, 4));
        Check.same("3 its replay too", true, game.isReplayed());
    }

    private static void malformed(String text, int position) {
        SkirmishGrid game = new SkirmishGrid();
        Games.type(game, text);
        Check.raises("4 " + text, IllegalArgumentException.class, () -> game.load(1));
        Check.same("4 position in " + text, position, game.errorPosition());
        Check.same("4 buffer is empty after " + text, 1, game.append('.'));
    }

    private static void errorPosition() {
        SkirmishGrid none = new SkirmishGrid();
        Check.raises("4 none", NoSuchElementException.class, () -> none.errorPosition());
        malformed("...x", 3);
        malformed("x", 0);
        malformed(" .../.../...", 0);
        malformed(".../.../..", 10);
        malformed(".../.../", 8);
        malformed(".../../...", 6);
        malformed(".../..../...", 7);
        malformed(".../.../..../", 11);
        malformed(".../.../... ", 11);
        malformed("/", 0);
        malformed("...//...", 4);
        malformed("", 0);
        malformed("...O", 3);
        malformed("../.x", 4);
        SkirmishGrid game = new SkirmishGrid();
        Games.type(game, "...x");
        Check.raises("4 first", IllegalArgumentException.class, () -> game.load(1));
        Games.type(game, ".../.../...");
        game.load(1);
        Check.same("4 stays after a good text", 3, game.errorPosition());
        Games.type(game, "../..");
        Check.raises("4 too small", UnsupportedOperationException.class, () -> game.load(1));
        Check.same("4 stays after an unfit one", 3, game.errorPosition());
        Games.type(game, "x");
        Check.raises("4 second", IllegalArgumentException.class, () -> game.load(1));
        Check.same("4 the last one", 0, game.errorPosition());
    }

    private static void terrain() {
        SkirmishGrid game = Games.on(".#o~/^.#./...#", 1);
        String all = ".#o~^.#....#";
        for (int cell = 0; cell < 12; cell++) {
            Check.same("5 cell " + cell, all.charAt(cell), game.terrain(cell / 4, cell % 4));
        }
        Check.raises("5 row -1", IndexOutOfBoundsException.class, () -> game.terrain(-1, 0));
        Check.raises("5 column -1", IndexOutOfBoundsException.class, () -> game.terrain(0, -1));
        Check.raises("5 row 3", IndexOutOfBoundsException.class, () -> game.terrain(3, 0));
        Check.raises("5 column 4", IndexOutOfBoundsException.class, () -> game.terrain(0, 4));
        Check.raises("5 greatest", IndexOutOfBoundsException.class,
                () -> game.terrain(Integer.MAX_VALUE, Integer.MAX_VALUE));
    }

    private static void isSeen() {
        SkirmishGrid wall = Games.on("...../...../..#../...../.....", 1);
        Check.same("6 along a row", false, wall.isSeen(10, 14));
        Check.same("6 along a column", false, wall.isSeen(2, 22));
        Check.same("6 diagonal", false, wall.isSeen(0, 24));
        Check.same("6 the wall itself", true, wall.isSeen(10, 12));
        Check.same("6 from the wall", true, wall.isSeen(12, 24));
        Check.same("6 itself", true, wall.isSeen(12, 12));
        Check.same("6 before the wall", true, wall.isSeen(10, 11));
        Check.same("6 behind another end", true, wall.isSeen(13, 14));
        Check.same("6 a knight's step past it", false, wall.isSeen(11, 18));
        Check.same("6 beside it", true, wall.isSeen(5, 9));
        Check.same("6 the corner alone is no hindrance", true, wall.isSeen(7, 11));
        Check.same("6 the corner of a longer line", true, wall.isSeen(3, 15));
        SkirmishGrid corners = Games.on(".#./#../...", 1);
        Check.same("6 between two corners", true, corners.isSeen(0, 4));
        Check.same("6 and back", true, corners.isSeen(4, 0));
        Check.same("6 over the corners", true, corners.isSeen(0, 8));
        Check.same("6 barriers, mud and fire are no walls", true, Games.on(".o~^./...../.....", 1).isSeen(0, 4));
        SkirmishGrid steep = Games.on("...#..../......../........", 1);
        Check.same("6 steep: only the inside counts", true, steep.isSeen(2, 11));
        Check.same("6 flat: only a corner", true, steep.isSeen(1, 12));
        Check.same("6 flat: inside", false, steep.isSeen(2, 13));
        Check.raises("6 cell -1", IndexOutOfBoundsException.class, () -> wall.isSeen(-1, 0));
        Check.raises("6 cell 25", IndexOutOfBoundsException.class, () -> wall.isSeen(25, 0));
        Check.raises("6 other -1", IndexOutOfBoundsException.class, () -> wall.isSeen(0, -1));
        Check.raises("6 other 25", IndexOutOfBoundsException.class, () -> wall.isSeen(0, 25));
    }

    private static void cover() {
        SkirmishGrid game = Games.on(".#.../o.o../...../.~^../.....", 1);
        Check.same("7 wall above", 2, game.cover(6, 1));
        Check.same("7 barrier at the left, wall above", 2, game.cover(6, 0));
        Check.same("7 barrier at the right", 1, game.cover(6, 9));
        Check.same("7 barrier at the left only", 1, game.cover(6, 15));
        Check.same("7 nothing below", 0, game.cover(6, 16));
        Check.same("7 itself", 0, game.cover(6, 6));
        Check.same("7 diagonal neighbors do not count", 0, game.cover(11, 21));
        Check.same("7 barrier above at the left", 0, game.cover(11, 15));
        Check.same("7 mud and fire are none", 0, game.cover(11, 22));
        Check.same("7 barrier above", 1, game.cover(12, 2));
        Check.same("7 the other cell itself", 1, game.cover(1, 2) + game.cover(6, 7));
        Check.same("7 from a wall", 2, game.cover(0, 4));
        Check.same("7 not beyond", 0, game.cover(0, 0));
        Check.raises("7 cell -1", IndexOutOfBoundsException.class, () -> game.cover(-1, 0));
        Check.raises("7 cell 25", IndexOutOfBoundsException.class, () -> game.cover(25, 0));
        Check.raises("7 other -1", IndexOutOfBoundsException.class, () -> game.cover(0, -1));
        Check.raises("7 other 25", IndexOutOfBoundsException.class, () -> game.cover(0, 25));
    }
}
