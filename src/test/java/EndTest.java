import java.util.NoSuchElementException;

/** Fights that end, in each way, and what is left of the units that died. */
public final class EndTest {
    public static void main(String[] arguments) {
        nobodyHasATurn();
        deadUnitsStay();
        deathAtTheBeginningOfATurn();
        Check.finish();
    }

    /** A sniper is first; with the result 20 and the damage 2 * (4 + 4) it kills the other one at once. */
    static SkirmishGrid wonBy(int team) {
        int seed = Games.seedWhere(6, 6, 6, 1, 20, 20, 4, 4);
        SkirmishGrid game = Games.with(Games.on(".../.../...", seed), Games.man(team, 3, 0), Games.man(1 - team, 3, 8));
        game.begin();
        game.attack(1);
        return game;
    }

    /** Everybody is weakened first, so that one grenade is too much for all three. */
    static SkirmishGrid wonByNobody() {
        for (int seed = 0; seed < 100000; seed++) {
            SkirmishGrid game = Games.with(Games.on(".../.../...", seed), Games.man(0, 0, 0), Games.man(1, 3, 4),
                    Games.man(0, 0, 2));
            game.begin();
            int turns = 0;
            while (game.condition() == 1 && turns < 40) {
                turns++;
                int me = game.current();
                int other = me == 1 ? 0 : 1;
                boolean weak = game.unit(0, 3) <= 3 && game.unit(1, 3) <= 3 && game.unit(2, 3) <= 3;
                if (weak && me != 1 && game.unit(me, 6) > 0 && game.unit(me, 5) > 0) {
                    game.throwAt(1);
                } else if (game.unit(me, 6) > 0 && game.unit(me, 4) > 0 && game.unit(other, 3) > 3) {
                    game.attack(other);
                } else if (me == 1 && game.unit(me, 6) > 0 && game.unit(me, 4) > 0 && game.unit(2, 3) > 3) {
                    game.attack(2);
                } else {
                    game.endTurn();
                }
            }
            if (game.condition() == 4) {
                return game;
            }
        }
        throw new IllegalStateException("no such fight");
    }

    private static void nobodyHasATurn() {
        SkirmishGrid game = wonBy(0);
        Check.same("22 the fight is over", 2, game.condition());
        Check.same("10 nobody has actions", 0, game.unit(0, 6) + game.unit(1, 6));
        Check.raises("14", NoSuchElementException.class, () -> game.current());
        Check.raises("16", UnsupportedOperationException.class, () -> game.costs(1));
        Check.raises("17", UnsupportedOperationException.class, () -> game.pathCell(1, 0));
        Check.raises("20", UnsupportedOperationException.class, () -> game.bestTarget());
        Check.raises("21", UnsupportedOperationException.class, () -> game.move(1));
        Check.raises("22", UnsupportedOperationException.class, () -> game.attack(1));
        Check.raises("23", UnsupportedOperationException.class, () -> game.throwAt(1));
        Check.raises("24", UnsupportedOperationException.class, () -> game.guard());
        Check.raises("25", UnsupportedOperationException.class, () -> game.watch());
        Check.raises("26", UnsupportedOperationException.class, () -> game.reload());
        Check.raises("27", UnsupportedOperationException.class, () -> game.endTurn());
        Check.same("32 over", true, game.isReplayed());
        Check.same("29 hit and death", "9,-1,1 2,0,16 4,1,0", Games.events(game));
        game.undo();
        Check.same("31 goes on again", 1, game.condition());
        Check.same("31 its turn", 0, game.current());
        Check.same("31 actions", 2, game.unit(0, 6));
        String events = Games.events(wonByNobody());
        Check.same("23 both die by one grenade", true, events.matches(".* 8,[02],1 4,0,0 4,1,0 4,2,0"));
    }

    private static void deadUnitsStay() {
        int seed = Games.seedWhere(6, 6, 6, 1, 6, 1, 20, 20, 4, 4);
        SkirmishGrid game = Games.with(Games.on(".../.../...", seed), Games.man(0, 3, 0), Games.man(1, 3, 4),
                Games.man(1, 2, 2));
        game.begin();
        game.attack(1);
        Check.same("10 dead", 0, game.unit(1, 3));
        Check.same("10 its cell", 4, game.unit(1, 2));
        Check.same("12 goes on", 1, game.condition());
        Check.same("15 stays in the order", 1, game.order(1));
        Check.same("10 keeps its roll", 7, game.unit(1, 7));
        Check.raises("22 the dead cannot be attacked", IllegalArgumentException.class, () -> game.attack(1));
        Check.raises("18 nor have chances", IllegalArgumentException.class, () -> game.chance(0, 1));
        Check.raises("18 to attack", IllegalArgumentException.class, () -> game.chance(1, 0));
        Check.raises("8 a dead unit is on its cell", IllegalArgumentException.class, () -> game.addUnit(0, 0, 4));
        Check.raises("8 begun", IllegalStateException.class, () -> game.addUnit(0, 0, 5));
        Check.same("16 in nobody's way", 1 + 1, game.costs(4));
        Check.same("21 onto it", 4, game.move(4));
        Check.same("33 the dead count", 9.0f, game.meanHealth(1));
        Check.same("27 the dead are skipped", 2, game.endTurn());
        game.endTurn();
        Check.same("10 no roll in the new round", 0, game.unit(1, 7));
        Check.raises("15 not in the new order", NoSuchElementException.class, () -> game.order(2));
    }

    /** A sniper of 7 health loses 5, and 2 more by fire: it dies before it gets its turn. */
    private static void deathAtTheBeginningOfATurn() {
        int seed = Games.seedWhere(6, 6, 6, 3, 6, 1, 20, 15, 4, 1, 6, 6, 6, 1, 6, 1);
        SkirmishGrid game = Games.with(Games.on(".^./.../...", seed), Games.man(0, 3, 0), Games.man(1, 3, 2),
                Games.man(0, 2, 6));
        game.begin();
        game.move(1);
        game.endTurn();
        game.attack(0);
        Check.same("10 health", 2, game.unit(0, 3));
        Check.same("10 burning", 1, game.unit(0, 9));
        game.endTurn();
        Check.same("27 the turn goes to the next one", 1, game.endTurn());
        Check.same("15 the dead one is the first of the round", 0, game.order(0));
        Check.same("29 burnt to death", "9,-1,1 1,0,1 2,1,5 9,-1,2 5,0,2 4,0,0", Games.events(game));
        Check.same("10 its burning stays", 1, game.unit(0, 9));
        Check.same("32 replayed", true, game.isReplayed());
    }
}
