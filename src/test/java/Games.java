/** Makes skirmishes for the tests, and finds seeds whose dice fall as a test wants them. */
final class Games {
    private Games() {
    }

    static void type(SkirmishGrid game, String text) {
        for (char sign : text.toCharArray()) {
            game.append(sign);
        }
    }

    static SkirmishGrid on(String text, int seed) {
        SkirmishGrid game = new SkirmishGrid();
        type(game, text);
        game.load(seed);
        return game;
    }

    /** Adds units, each one as {team, kind, cell}. */
    static SkirmishGrid with(SkirmishGrid game, int[]... units) {
        for (int[] unit : units) {
            game.addUnit(unit[0], unit[1], unit[2]);
        }
        return game;
    }

    static int[] man(int team, int kind, int cell) {
        return new int[] {team, kind, cell};
    }

    /** Takes pairs: a die's sides, and the result that it shall have; 0 for any result. */
    static int seedWhere(int... dice) {
        for (int seed = 0; seed < 100000000; seed++) {
            int z = seed;
            boolean isFit = true;
            for (int i = 0; i < dice.length && isFit; i += 2) {
                z = z * 1103515245 + 12345;
                int result = (z >>> 16) % dice[i] + 1;
                isFit = dice[i + 1] == 0 || result == dice[i + 1];
            }
            if (isFit) {
                return seed;
            }
        }
        throw new IllegalStateException("no such seed");
    }

    /** All events as "kind,unit,number" with blanks between. */
    static String events(SkirmishGrid game) {
        StringBuilder all = new StringBuilder();
        for (int i = 0; i < game.eventCount(); i++) {
            all.append(i > 0 ? " " : "").append(game.event(i, 0)).append(',').append(game.event(i, 1)).append(',')
                    .append(game.event(i, 2));
        }
        return all.toString();
    }

    /** All that can be seen of units, turns, events and commands. */
    static String state(SkirmishGrid game) {
        StringBuilder all = new StringBuilder();
        for (int unit = 0; unit < game.unitCount(); unit++) {
            for (int what = 0; what < 12; what++) {
                all.append(game.unit(unit, what)).append(' ');
            }
            all.append("| ");
        }
        all.append(game.condition()).append(' ').append(game.round()).append(' ').append(game.commandCount());
        if (game.condition() == 1) {
            all.append(" turn ").append(game.current());
        }
        if (game.round() > 0) {
            all.append(" order");
            try {
                for (int i = 0; i < 8; i++) {
                    all.append(' ').append(game.order(i));
                }
            } catch (java.util.NoSuchElementException e) {
                all.append('.');
            }
        }
        return all.append(" events ").append(events(game)).toString();
    }
}
