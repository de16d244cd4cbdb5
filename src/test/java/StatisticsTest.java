import java.util.NoSuchElementException;

/** Promises 33 to 36: meanHealth, storeHealths, copyHealths, storedBits. */
public final class StatisticsTest {
    public static void main(String[] arguments) {
        meanHealth();
        noUnits();
        rows();
        copyHealths();
        copyErrors();
        floatRows();
        Check.finish();
    }

    private static SkirmishGrid four() {
        return Games.with(new SkirmishGrid(), Games.man(0, 0, 0), Games.man(1, 1, 1), Games.man(0, 2, 2), Games.man(0, 3, 3));
    }

    private static void meanHealth() {
        SkirmishGrid game = four();
        Check.same("33 team 0", 33f / 3f, game.meanHealth(0));
        Check.same("33 team 1", 12f, game.meanHealth(1));
        Check.raises("33 team -1", IndexOutOfBoundsException.class, () -> game.meanHealth(-1));
        Check.raises("33 team 2", IndexOutOfBoundsException.class, () -> game.meanHealth(2));
        SkirmishGrid empty = new SkirmishGrid();
        Check.raises("33 no units", ArithmeticException.class, () -> empty.meanHealth(0));
        Check.raises("33 team first", IndexOutOfBoundsException.class, () -> empty.meanHealth(2));
        SkirmishGrid third = Games.with(new SkirmishGrid(), Games.man(1, 0, 0), Games.man(1, 0, 1), Games.man(1, 3, 2));
        Check.same("33 a third", 23f / 3f, third.meanHealth(1));
        Check.raises("33 only the other team", ArithmeticException.class, () -> third.meanHealth(0));
    }

    private static void noUnits() {
        SkirmishGrid game = new SkirmishGrid();
        Check.raises("36 not stored", NoSuchElementException.class, () -> game.storedBits(0, 0));
        Check.same("34 no elements", 0, game.storeHealths(0, true));
        Check.raises("36 no element", NoSuchElementException.class, () -> game.storedBits(0, 0));
        Check.raises("35 the other one is not stored", NoSuchElementException.class, () -> game.copyHealths(0, 0));
        Check.raises("35 nor if it is the first", NoSuchElementException.class, () -> game.copyHealths(1, 0));
        Check.same("34 second row", 0, game.storeHealths(1, true));
        Check.same("35 nothing", false, game.copyHealths(0, 0));
        Check.raises("35 one is too many", IllegalArgumentException.class, () -> game.copyHealths(0, 1));
    }

    private static void rows() {
        SkirmishGrid game = four();
        Check.raises("34 row -1", IndexOutOfBoundsException.class, () -> game.storeHealths(-1, true));
        Check.raises("34 row 2", IndexOutOfBoundsException.class, () -> game.storeHealths(2, false));
        Check.same("34 exact", 4, game.storeHealths(0, true));
        Check.same("34 shares", 4, game.storeHealths(1, false));
        int[] health = {8, 12, 18, 7};
        for (int i = 0; i < 4; i++) {
            Check.same("36 exact " + i, Float.floatToIntBits(health[i]), game.storedBits(0, i));
            Check.same("36 share " + i, Float.floatToIntBits(1f), game.storedBits(1, i));
        }
        Check.raises("36 row -1", IndexOutOfBoundsException.class, () -> game.storedBits(-1, 0));
        Check.raises("36 row 2", IndexOutOfBoundsException.class, () -> game.storedBits(2, 0));
        Check.raises("36 index -1", NoSuchElementException.class, () -> game.storedBits(0, -1));
        Check.raises("36 index 4", NoSuchElementException.class, () -> game.storedBits(0, 4));
        Check.raises("36 row first", IndexOutOfBoundsException.class, () -> game.storedBits(2, 9));
        game.addUnit(1, 0, 9);
        Check.raises("36 the row stays as it was", NoSuchElementException.class, () -> game.storedBits(0, 4));
        Check.same("34 anew", 5, game.storeHealths(0, false));
        Check.same("36 anew", Float.floatToIntBits(1f), game.storedBits(0, 2));
    }

    /** A grenade takes 3 health of every unit here. */
    private static SkirmishGrid hurt() {
        SkirmishGrid game = Games.with(Games.on(".../.../...", Games.seedWhere(6, 6, 6, 1, 6, 1, 6, 1)), Games.man(0, 0, 0),
                Games.man(1, 1, 1), Games.man(1, 2, 2), Games.man(1, 3, 3));
        game.begin();
        game.storeHealths(1, true);
        game.throwAt(4);
        return game;
    }

    private static void copyHealths() {
        SkirmishGrid game = hurt();
        game.storeHealths(0, true);
        Check.same("35 nothing to copy", false, game.copyHealths(0, 0));
        Check.same("35 two of them", true, game.copyHealths(0, 2));
        int[] due = {5, 9, 18, 7};
        for (int i = 0; i < 4; i++) {
            Check.same("36 element " + i, Float.floatToIntBits(due[i]), game.storedBits(1, i));
        }
        Check.same("35 the same again", false, game.copyHealths(0, 2));
        Check.same("35 back", true, game.copyHealths(1, 4));
        Check.same("36 from the second row", Float.floatToIntBits(18f), game.storedBits(0, 2));
        Check.same("36 and the last one", Float.floatToIntBits(7f), game.storedBits(0, 3));
        Check.same("35 equal rows", false, game.copyHealths(0, 4));
    }

    private static void copyErrors() {
        SkirmishGrid game = four();
        Check.raises("35 row -1", IndexOutOfBoundsException.class, () -> game.copyHealths(-1, 0));
        Check.raises("35 row 2", IndexOutOfBoundsException.class, () -> game.copyHealths(2, 0));
        Check.raises("35 least row", IndexOutOfBoundsException.class, () -> game.copyHealths(Integer.MIN_VALUE, 0));
        Check.raises("35 neither is stored", NoSuchElementException.class, () -> game.copyHealths(0, 0));
        game.storeHealths(0, true);
        Check.raises("35 one is stored", NoSuchElementException.class, () -> game.copyHealths(0, -1));
        game.addUnit(1, 0, 10);
        game.storeHealths(1, false);
        Check.raises("35 types", UnsupportedOperationException.class, () -> game.copyHealths(0, 1));
        Check.raises("35 types before the number", UnsupportedOperationException.class, () -> game.copyHealths(1, -1));
        game.storeHealths(1, true);
        Check.raises("35 -1", IllegalArgumentException.class, () -> game.copyHealths(0, -1));
        Check.raises("35 longer than from", IllegalArgumentException.class, () -> game.copyHealths(0, 5));
        Check.raises("35 longer than the other one", IllegalArgumentException.class, () -> game.copyHealths(1, 5));
        Check.same("35 as long as the shorter one", false, game.copyHealths(1, 4));
        Check.same("34 lengths stay", 0, game.storedBits(1, 4) - Float.floatToIntBits(8f));
        Check.raises("34 lengths stay", NoSuchElementException.class, () -> game.storedBits(0, 4));
    }

    private static void floatRows() {
        SkirmishGrid game = hurt();
        game.storeHealths(0, false);
        float[] due = {5f / 8f, 9f / 12f, 15f / 18f, 4f / 7f};
        for (int i = 0; i < 4; i++) {
            Check.same("36 share " + i, Float.floatToIntBits(due[i]), game.storedBits(0, i));
        }
        game.undo();
        game.storeHealths(1, false);
        Check.same("35 floats", true, game.copyHealths(0, 3));
        Check.same("36 copied", Float.floatToIntBits(15f / 18f), game.storedBits(1, 2));
        Check.same("36 not copied", Float.floatToIntBits(1f), game.storedBits(1, 3));
        Check.same("35 no change", false, game.copyHealths(0, 3));
        SkirmishGrid full = Games.with(new SkirmishGrid(), Games.man(0, 0, 0));
        full.storeHealths(0, false);
        Games.type(full, ".../.../...");
        full.load(1);
        full.addUnit(0, 1, 0);
        full.storeHealths(1, false);
        Check.same("35 equal shares of different healths", false, full.copyHealths(0, 1));
        SkirmishGrid dead = EndTest.wonBy(0);
        dead.storeHealths(0, false);
        dead.storeHealths(1, true);
        Check.same("36 dead, as a float", 0, dead.storedBits(0, 1));
        Check.same("36 dead, as an int", 0, dead.storedBits(1, 1));
    }
}
