/** Promises 21 to 27: move, attack, throwAt, guard, watch, reload, endTurn. */
public final class CommandTest {
    public static void main(String[] arguments) {
        notBegun();
        move();
        moveErrors();
        reactionHits();
        reactionsMiss();
        noReaction();
        deathOfTheMover();
        attack();
        attackErrors();
        throwAt();
        throwErrors();
        ownGrenade();
        guardAndWatch();
        reload();
        endTurn();
        Check.finish();
    }

    private static void notBegun() {
        SkirmishGrid game = Games.with(new SkirmishGrid(), Games.man(0, 0, 0), Games.man(1, 0, 24));
        Check.raises("21", UnsupportedOperationException.class, () -> game.move(1));
        Check.raises("21 cell first", IndexOutOfBoundsException.class, () -> game.move(25));
        Check.raises("22", UnsupportedOperationException.class, () -> game.attack(1));
        Check.raises("22 unit first", IndexOutOfBoundsException.class, () -> game.attack(2));
        Check.raises("23", UnsupportedOperationException.class, () -> game.throwAt(1));
        Check.raises("23 cell first", IndexOutOfBoundsException.class, () -> game.throwAt(-1));
        Check.raises("24", UnsupportedOperationException.class, () -> game.guard());
        Check.raises("25", UnsupportedOperationException.class, () -> game.watch());
        Check.raises("26", UnsupportedOperationException.class, () -> game.reload());
        Check.raises("27", UnsupportedOperationException.class, () -> game.endTurn());
        Check.same("30 refused ones are no commands", 0, game.commandCount());
    }

    private static SkirmishGrid scoutAndHeavy(String text, int scout, int heavy) {
        SkirmishGrid game = Games.with(Games.on(text, 1), Games.man(0, 0, scout), Games.man(1, 2, heavy));
        game.begin();
        return game;
    }

    private static void move() {
        SkirmishGrid game = scoutAndHeavy("..^....../........./........../.......".substring(0, 8)
                + "/......../......../........", 0, 31);
        Check.same("21 as far as the speed", 6, game.move(6));
        Check.same("10 cell", 6, game.unit(0, 2));
        Check.same("10 one action less", 1, game.unit(0, 6));
        Check.same("21 through fire", 2, game.unit(0, 9));
        Check.same("29 one event for the move", "9,-1,1 1,0,6", Games.events(game));
        Check.same("21 with the last action", 7, game.move(7));
        Check.same("27 the turn goes on without actions", 0, game.current());
        Check.raises("21 no actions", IllegalStateException.class, () -> game.move(6));
        Check.raises("21 cell is looked at before the actions", IndexOutOfBoundsException.class, () -> game.move(64));
        Check.raises("21 actions are looked at before the path", IllegalStateException.class, () -> game.move(7));
    }

    private static void moveErrors() {
        SkirmishGrid game = scoutAndHeavy("......../......../........", 0, 9);
        Check.raises("21 own cell", IllegalArgumentException.class, () -> game.move(0));
        Check.raises("21 living unit", IllegalArgumentException.class, () -> game.move(9));
        Check.raises("21 farther than the speed", IllegalArgumentException.class, () -> game.move(7));
        Check.raises("21 cell -1", IndexOutOfBoundsException.class, () -> game.move(-1));
        Check.raises("21 cell 24", IndexOutOfBoundsException.class, () -> game.move(24));
        Check.same("21 nothing has changed", 2, game.unit(0, 6));
        SkirmishGrid mud = scoutAndHeavy(".~~~./####./.....", 0, 14);
        Check.raises("21 costs 7", IllegalArgumentException.class, () -> mud.move(4));
        Check.raises("21 wall", IllegalArgumentException.class, () -> mud.move(5));
        Check.same("21 costs 6", 3, mud.move(3));
    }

    /** A soldier of team 1 is first and watches; a second one too, and then the scout moves. */
    private static SkirmishGrid watched(int... dice) {
        int[] all = new int[6 + dice.length];
        System.arraycopy(new int[] {6, 6, 6, 5, 6, 1}, 0, all, 0, 6);
        System.arraycopy(dice, 0, all, 6, dice.length);
        SkirmishGrid game = Games.with(Games.on("...../...../.....", Games.seedWhere(all)),
                Games.man(1, 1, 10), Games.man(1, 1, 14), Games.man(0, 1, 0));
        game.begin();
        game.watch();
        game.endTurn();
        game.watch();
        game.endTurn();
        return game;
    }

    private static void reactionHits() {
        SkirmishGrid game = watched(20, 15, 4, 2);
        Check.same("21 ends in the first cell", 1, game.move(3));
        Check.same("10 health", 12 - (2 + 3 - 1), game.unit(2, 3));
        Check.same("10 watches no more", 0, game.unit(0, 11));
        Check.same("10 nobody else reacts", 1, game.unit(1, 11));
        Check.same("10 ammunition", 4, game.unit(0, 4));
        Check.same("29 events", "9,-1,1 7,0,2 2,0,4 1,2,1", Games.events(game));
        Check.same("27 its turn goes on", 2, game.current());
        Check.same("10 one action is left", 1, game.unit(2, 6));
    }

    private static void reactionsMiss() {
        SkirmishGrid game = watched(20, 1, 20, 2);
        Check.same("21 goes to the end", 3, game.move(3));
        Check.same("29 both react in the first cell", "9,-1,1 7,0,2 3,0,2 7,1,2 3,1,2 1,2,3", Games.events(game));
        Check.same("10 nobody watches", 0, game.unit(0, 11) + game.unit(1, 11));
        SkirmishGrid second = watched(20, 1, 20, 20, 4, 1);
        Check.same("21 the second one hits", 1, second.move(3));
        Check.same("29 twice the damage", "9,-1,1 7,0,2 3,0,2 7,1,2 2,1,6 1,2,1", Games.events(second));
    }

    private static void noReaction() {
        // A sniper of range 8 watches behind a wall, and a friend watches too.
        int seed = Games.seedWhere(6, 6, 6, 5, 6, 1);
        SkirmishGrid game = Games.with(Games.on("...../#####/.....", seed), Games.man(1, 3, 10), Games.man(0, 3, 4),
                Games.man(0, 1, 0));
        Check.same("sniper first", 0, game.begin());
        game.watch();
        Check.same("friend", 1, game.endTurn());
        game.watch();
        game.endTurn();
        Check.same("21 neither unseen nor friendly ones react", 2, game.move(2));
        Check.same("29 no event", "9,-1,1 1,2,2", Games.events(game));
        // A scout's range is 5, and the soldier comes to the distance 5 with its second step.
        int far = Games.seedWhere(6, 6, 6, 1, 20, 20, 4, 1);
        SkirmishGrid reach = Games.with(Games.on("......../......../........", far), Games.man(1, 0, 0), Games.man(0, 1, 7));
        Check.same("scout first", 0, reach.begin());
        reach.watch();
        reach.endTurn();
        Check.same("21 only within the range", 5, reach.move(3));
        Check.same("29 one reaction", "9,-1,1 7,0,1 2,0,4 1,1,5", Games.events(reach));
    }

    private static void deathOfTheMover() {
        int seed = Games.seedWhere(6, 6, 6, 6, 6, 1, 20, 20, 4, 4);
        SkirmishGrid game = Games.with(Games.on("...../^^^^^/.....", seed), Games.man(1, 3, 0), Games.man(0, 3, 12),
                Games.man(0, 2, 14));
        Check.same("sniper first", 0, game.begin());
        game.watch();
        game.endTurn();
        Check.same("21 where it died", 7, game.move(2));
        Check.same("29 1 is the last one", "9,-1,1 7,0,1 2,0,16 4,1,0 1,1,7", Games.events(game));
        Check.same("27 the turn has ended by itself", 2, game.current());
        Check.same("10 burning of the dead", 2, game.unit(1, 9));
        Check.same("30 commands", 3, game.commandCount());
        Check.same("32 replayed", true, game.isReplayed());
    }

    private static void attack() {
        int seed = Games.seedWhere(6, 6, 6, 1, 20, 8, 4, 2, 20, 1);
        SkirmishGrid game = Games.with(Games.on(".../.../...", seed), Games.man(0, 1, 0), Games.man(1, 2, 8));
        game.begin();
        Check.same("22 damage", 3 + 2 - 3, game.attack(1));
        Check.same("10 health", 16, game.unit(1, 3));
        Check.same("10 ammunition", 4, game.unit(0, 4));
        Check.same("10 actions", 1, game.unit(0, 6));
        Check.same("22 1 misses", 0, game.attack(1));
        Check.same("29 events", "9,-1,1 2,0,2 3,0,1", Games.events(game));
        // The soldier needs 8 + 2 - 5 = 5.
        for (int result = 2; result < 20; result++) {
            int thrown = Games.seedWhere(6, 6, 6, 1, 20, result, 4, 3);
            SkirmishGrid one = Games.with(Games.on(".../.../...", thrown), Games.man(0, 1, 0), Games.man(1, 2, 8));
            one.begin();
            Check.same("22 result " + result, result < 5 ? 0 : 3, one.attack(1));
        }
        int great = Games.seedWhere(6, 6, 6, 1, 20, 20, 4, 4);
        SkirmishGrid twenty = Games.with(Games.on(".../.../...", great), Games.man(0, 3, 0), Games.man(1, 0, 8), Games.man(1, 2, 7));
        twenty.begin();
        Check.same("22 more than the health", 16, twenty.attack(twenty.current() == 0 ? 1 : 0));
    }

    private static void attackErrors() {
        int seed = Games.seedWhere(6, 6, 6, 1, 6, 1, 6, 1);
        SkirmishGrid game = Games.with(Games.on("......#./......../........", seed), Games.man(0, 3, 5), Games.man(0, 1, 4),
                Games.man(1, 2, 7), Games.man(1, 2, 16));
        Check.same("sniper first", 0, game.begin());
        Check.raises("22 unit -1", IndexOutOfBoundsException.class, () -> game.attack(-1));
        Check.raises("22 unit 4", IndexOutOfBoundsException.class, () -> game.attack(4));
        Check.raises("22 itself", IllegalArgumentException.class, () -> game.attack(0));
        Check.raises("22 same team", IllegalArgumentException.class, () -> game.attack(1));
        Check.raises("22 not seen", IllegalArgumentException.class, () -> game.attack(2));
        Check.same("30 none", 0, game.commandCount());
        game.attack(3);
        game.attack(3);
        Check.raises("22 no actions", IllegalStateException.class, () -> game.attack(1));
        Check.raises("22 unit first", IndexOutOfBoundsException.class, () -> game.attack(4));
        for (int turns = 0; turns < 8 && (game.current() != 0 || game.unit(0, 6) == 0); turns++) {
            game.endTurn();
        }
        game.attack(3);
        Check.same("10 no ammunition", 0, game.unit(0, 4));
        Check.same("10 but an action", 1, game.unit(0, 6));
        Check.raises("22 no ammunition", IllegalStateException.class, () -> game.attack(3));
        Check.raises("22 ammunition before the target", IllegalStateException.class, () -> game.attack(1));
        Check.raises("25 no ammunition", IllegalStateException.class, () -> game.watch());
        SkirmishGrid far = Games.with(Games.on("......../......../........", 1), Games.man(0, 0, 0), Games.man(1, 2, 6));
        far.begin();
        Check.raises("22 too far", IllegalArgumentException.class, () -> far.attack(1));
    }

    private static void throwAt() {
        // Four units at the cell 12: three are next to it, and the one at the distance 2 is not concerned.
        int seed = Games.seedWhere(6, 6, 6, 1, 6, 1, 6, 1, 6, 4, 6, 5, 6, 6);
        SkirmishGrid game = Games.with(Games.on("...../...../...../...../.....", seed), Games.man(0, 0, 6),
                Games.man(1, 1, 18), Games.man(1, 2, 12), Games.man(1, 2, 24));
        Check.same("scout first", 0, game.begin());
        Check.same("23 three lose health", 3, game.throwAt(12));
        Check.same("10 health", "5 9 15 18", game.unit(0, 3) + " " + game.unit(1, 3) + " " + game.unit(2, 3) + " " + game.unit(3, 3));
        Check.same("10 stunned", "0 1 1 0", game.unit(0, 8) + " " + game.unit(1, 8) + " " + game.unit(2, 8) + " " + game.unit(3, 8));
        Check.same("10 grenades", 0, game.unit(0, 5));
        Check.same("10 actions", 1, game.unit(0, 6));
        Check.same("29 events", "9,-1,1 8,0,12 6,1,1 6,2,1", Games.events(game));
        Check.raises("23 no grenades", IllegalStateException.class, () -> game.throwAt(12));
        SkirmishGrid empty = scoutAndHeavy("...../...../...../...../.....", 0, 4);
        Check.same("23 nobody there", 0, empty.throwAt(24));
        Check.same("29 event", "9,-1,1 8,0,24", Games.events(empty));
        // The dice: 3 units roll for the second grenade too, though one is stunned already.
        int twice = Games.seedWhere(6, 6, 6, 5, 6, 1, 6, 6, 6, 6, 6, 1);
        SkirmishGrid again = Games.with(Games.on("...../...../.....", twice), Games.man(0, 0, 0), Games.man(0, 0, 4),
                Games.man(1, 2, 12));
        again.begin();
        again.throwAt(12);
        Check.same("10 stunned once", 1, again.unit(2, 8));
        again.endTurn();
        again.throwAt(12);
        Check.same("10 still 1", 1, again.unit(2, 8));
        Check.same("29 no second event", "9,-1,1 8,0,12 6,2,1 8,1,12", Games.events(again));
        again.endTurn();
        again.endTurn();
        Check.same("10 the die after the one of the second grenade", 1 + 8, again.unit(0, 7));
    }

    private static void throwErrors() {
        SkirmishGrid game = scoutAndHeavy("......../......../...#....", 16, 7);
        Check.raises("23 cell -1", IndexOutOfBoundsException.class, () -> game.throwAt(-1));
        Check.raises("23 cell 24", IndexOutOfBoundsException.class, () -> game.throwAt(24));
        Check.raises("23 wall", IllegalArgumentException.class, () -> game.throwAt(19));
        Check.raises("23 not seen", IllegalArgumentException.class, () -> game.throwAt(20));
        Check.raises("23 too far", IllegalArgumentException.class, () -> game.throwAt(5));
        Check.same("10 kept", 1, game.unit(0, 5));
        Check.same("23 at 4", 0, game.throwAt(4));
        game.guard();
        Check.raises("23 no actions", IllegalStateException.class, () -> game.throwAt(19));
        SkirmishGrid sniper = Games.with(Games.on(".../.../...", Games.seedWhere(6, 6, 6, 1)), Games.man(0, 3, 0), Games.man(1, 2, 8));
        sniper.begin();
        Check.raises("23 a sniper has none", IllegalStateException.class, () -> sniper.throwAt(1));
    }

    private static void ownGrenade() {
        int seed = Games.seedWhere(6, 6, 6, 1, 6, 5);
        SkirmishGrid game = Games.with(Games.on(".../.../...", seed), Games.man(0, 0, 0), Games.man(1, 2, 8));
        game.begin();
        Check.same("23 at itself", 1, game.throwAt(0));
        Check.same("10 stunned", 1, game.unit(0, 8));
        Check.same("10 keeps its action", 1, game.unit(0, 6));
        game.endTurn();
        Check.same("10 over at the end of its turn", 0, game.unit(0, 8));
        game.endTurn();
        Check.same("10 actions", 2, game.unit(0, 6));
    }

    private static void guardAndWatch() {
        SkirmishGrid game = scoutAndHeavy(".../.../...", 0, 8);
        Check.same("24 actions left", 1, game.guard());
        Check.same("10 guards", 1, game.unit(0, 10));
        Check.raises("24 guards already", IllegalStateException.class, () -> game.guard());
        Check.same("25 uses one", 1, game.watch());
        Check.raises("25 no actions", IllegalStateException.class, () -> game.watch());
        Check.raises("24 no actions", IllegalStateException.class, () -> game.guard());
        game.endTurn();
        Check.same("10 guards in the others' turns", 1, game.unit(0, 10));
        Check.same("10 watches in the others' turns", 1, game.unit(0, 11));
        Check.same("25 uses both", 2, game.watch());
        Check.same("10 none is left", 0, game.unit(1, 6));
        game.endTurn();
        Check.same("11 guards no more", 0, game.unit(0, 10));
        Check.same("11 watches no more", 0, game.unit(0, 11));
        Check.same("27 the heavy still watches", 1, game.unit(1, 11));
        Check.same("28 no events", "9,-1,1 9,-1,2", Games.events(game));
    }

    private static void reload() {
        SkirmishGrid game = scoutAndHeavy(".../.../...", 0, 8);
        game.attack(1);
        Check.same("26 had", 5, game.reload());
        Check.same("10 ammunition", 6, game.unit(0, 4));
        Check.same("10 actions", 0, game.unit(0, 6));
        Check.raises("26 no actions", IllegalStateException.class, () -> game.reload());
        game.endTurn();
        Check.same("26 full already", 4, game.reload());
        Check.same("10 actions", 1, game.unit(1, 6));
    }

    private static void endTurn() {
        SkirmishGrid game = scoutAndHeavy(".../.../...", 0, 8);
        Check.same("27 next", 1, game.endTurn());
        Check.same("10 actions", 2, game.unit(1, 6));
        Check.same("10 not its turn", 0, game.unit(0, 6));
        Check.same("27 next round", 0, game.endTurn());
        Check.same("13 round", 2, game.round());
        Check.same("29 event", "9,-1,1 9,-1,2", Games.events(game));
        // The sniper has 2 health left, and burns to death at the beginning of the second round.
        int seed = Games.seedWhere(6, 6, 6, 1, 20, 15, 4, 1, 6, 6, 6, 1);
        SkirmishGrid fire = Games.with(Games.on(".^./.../...", seed), Games.man(0, 3, 0), Games.man(1, 3, 2));
        fire.begin();
        fire.move(1);
        fire.endTurn();
        Check.same("22 damage", 5, fire.attack(0));
        Check.same("27 over", -1, fire.endTurn());
        Check.same("12 team 1 has won", 3, fire.condition());
        Check.same("13 in the second round", 2, fire.round());
        Check.same("29 events", "9,-1,1 1,0,1 2,1,5 9,-1,2 5,0,2 4,0,0", Games.events(fire));
    }
}
