import java.util.Random;
import java.util.function.Supplier;

/** Random runs of calls, each one asked of the class and of the model, with all that can be seen compared. */
public final class ModelTest {
    private static final int RUNS = 4000;

    private final Random random;
    private final int run;
    private final SkirmishGrid game = new SkirmishGrid();
    private final Model model = new Model();
    private final StringBuilder calls = new StringBuilder();
    private boolean isWrong = false;

    private ModelTest(int run) {
        this.run = run;
        this.random = new Random(run);
    }

    public static void main(String[] arguments) {
        int runs = arguments.length > 0 ? Integer.parseInt(arguments[0]) : RUNS;
        int reached = 0;
        int over = 0;
        for (int run = 0; run < runs; run++) {
            ModelTest test = new ModelTest(run);
            test.play();
            reached += test.model.w.round > 1 ? 1 : 0;
            over += test.model.condition() > 1 ? 1 : 0;
        }
        // Without long fights and ended ones the runs would tell little.
        Check.same("runs with several rounds are common", true, reached * 4 > runs);
        Check.same("ended fights are common", true, over * 10 > runs);
        Check.finish();
    }

    private void both(String call, Supplier<Object> mine, Supplier<Object> due) {
        if (isWrong) {
            return;
        }
        calls.append(call).append('\n');
        String got = answer(mine);
        String want = answer(due);
        if (!got.equals(want)) {
            isWrong = true;
            Check.fail("run " + run + "\n" + calls + "answered " + got + ", due is " + want);
        }
    }

    private static String answer(Supplier<Object> call) {
        try {
            return String.valueOf(call.get());
        } catch (RuntimeException e) {
            return e.getClass().getName();
        }
    }

    private int any(int bound) {
        int wild = random.nextInt(60);
        if (wild == 0) {
            return -1;
        }
        if (wild == 1) {
            return bound;
        }
        if (wild == 2) {
            return new int[] {Integer.MIN_VALUE, Integer.MAX_VALUE, -2, 64, 1000000, 8}[random.nextInt(6)];
        }
        return random.nextInt(Math.max(1, bound));
    }

    private int cell() {
        return any(model.height() * model.width());
    }

    private int man() {
        return any(model.unitCount());
    }

    private void play() {
        if (random.nextInt(5) > 0) {
            load();
        }
        if (random.nextInt(10) > 0) {
            enlist(2 + random.nextInt(7));
            both("begin", game::begin, model::begin);
        }
        int count = 20 + random.nextInt(300);
        int eager = random.nextInt(3);
        for (int i = 0; i < count && !isWrong; i++) {
            if (random.nextInt(3) < eager) {
                fightOn();
            } else {
                anything();
            }
            if (i % 8 == 0) {
                compareAll();
            }
        }
        compareAll();
        Check.same("run " + run + " was as due", false, isWrong);
    }

    private void load() {
        StringBuilder text = new StringBuilder();
        boolean isWild = random.nextInt(12) == 0;
        int rows = isWild ? 1 + random.nextInt(9) : 3 + random.nextInt(6);
        int columns = isWild ? 1 + random.nextInt(9) : 3 + random.nextInt(6);
        String signs = new String[] {".....#o~^", "......", "....##", "..#o~^", "...^", "..o~"}[random.nextInt(6)];
        for (int row = 0; row < rows; row++) {
            if (row > 0) {
                text.append('/');
            }
            for (int column = 0; column < columns; column++) {
                text.append(signs.charAt(random.nextInt(signs.length())));
            }
        }
        if (random.nextInt(15) == 0 && text.length() > 0) {
            text.setCharAt(random.nextInt(text.length()), "./x #".charAt(random.nextInt(5)));
        }
        if (random.nextInt(15) == 0) {
            text.setLength(random.nextInt(text.length() + 1));
        }
        for (char sign : text.toString().toCharArray()) {
            both("append " + sign, () -> game.append(sign), () -> model.append(sign));
        }
        int seed = random.nextInt();
        both("load " + seed, () -> game.load(seed), () -> model.load(seed));
    }

    private void enlist(int count) {
        for (int i = 0; i < count; i++) {
            int team = random.nextInt(40) == 0 ? any(2) : i % 2;
            int kind = any(4);
            int cell = cell();
            both("addUnit " + team + " " + kind + " " + cell, () -> game.addUnit(team, kind, cell),
                    () -> model.addUnit(team, kind, cell));
        }
    }

    private void fightOn() {
        int unit = man();
        int cell = cell();
        switch (random.nextInt(8)) {
            case 0: case 1: case 2:
                if (model.w.now >= 0 && random.nextInt(4) > 0) {
                    try {
                        int best = model.bestTarget();
                        both("attack best " + best, () -> game.attack(best), () -> model.attack(best));
                    } catch (RuntimeException e) {
                        both("move " + cell, () -> game.move(cell), () -> model.move(cell));
                    }
                } else {
                    both("attack " + unit, () -> game.attack(unit), () -> model.attack(unit));
                }
                break;
            case 3: both("move " + cell, () -> game.move(cell), () -> model.move(cell)); break;
            case 4: both("throwAt " + cell, () -> game.throwAt(cell), () -> model.throwAt(cell)); break;
            case 5: both("watch", game::watch, model::watch); break;
            case 6: both("reload", game::reload, model::reload); break;
            default: both("endTurn", game::endTurn, model::endTurn); break;
        }
    }

    private void anything() {
        int a = cell();
        int b = cell();
        int u = man();
        int t = man();
        int row = any(2);
        int index = any(9);
        boolean flag = random.nextBoolean();
        switch (random.nextInt(34)) {
            case 0: both("isSeen " + a + " " + b, () -> game.isSeen(a, b), () -> model.isSeen(a, b)); break;
            case 1: both("cover " + a + " " + b, () -> game.cover(a, b), () -> model.cover(a, b)); break;
            case 2: both("chance " + u + " " + t, () -> game.chance(u, t), () -> model.chance(u, t)); break;
            case 3: both("mean " + u + " " + t, () -> game.meanDamage(u, t), () -> model.meanDamage(u, t)); break;
            case 4: both("costs " + a, () -> game.costs(a), () -> model.costs(a)); break;
            case 5: both("pathCell " + a + " " + index, () -> game.pathCell(a, index), () -> model.pathCell(a, index)); break;
            case 6: case 7: both("guard", game::guard, model::guard); break;
            case 8: case 9: case 10: both("watch", game::watch, model::watch); break;
            case 11: case 12: case 13: both("endTurn", game::endTurn, model::endTurn); break;
            case 14: case 15: both("move " + a, () -> game.move(a), () -> model.move(a)); break;
            case 16: both("attack " + t, () -> game.attack(t), () -> model.attack(t)); break;
            case 17: both("throwAt " + a, () -> game.throwAt(a), () -> model.throwAt(a)); break;
            case 18: case 19: both("undo", game::undo, model::undo); break;
            case 20: both("isReplayed", game::isReplayed, model::isReplayed); break;
            case 21: both("meanHealth " + row, () -> game.meanHealth(row), () -> model.meanHealth(row)); break;
            case 22: case 23: both("storeHealths " + row + " " + flag, () -> game.storeHealths(row, flag),
                    () -> model.storeHealths(row, flag)); break;
            case 24: case 25: both("copyHealths " + row + " " + index, () -> game.copyHealths(row, index),
                    () -> model.copyHealths(row, index)); break;
            case 26: both("storedBits " + row + " " + index, () -> game.storedBits(row, index),
                    () -> model.storedBits(row, index)); break;
            case 27: both("bestTarget", game::bestTarget, model::bestTarget); break;
            case 28: both("reload", game::reload, model::reload); break;
            case 29: both("order " + index, () -> game.order(index), () -> model.order(index)); break;
            case 30: rarely(); break;
            case 31: both("unit " + u + " " + index, () -> game.unit(u, index), () -> model.unit(u, index)); break;
            case 32: both("addUnit " + row + " " + index + " " + a, () -> game.addUnit(row, index, a),
                    () -> model.addUnit(row, index, a)); break;
            default: both("terrain " + index + " " + row, () -> game.terrain(index, row),
                    () -> model.terrain(index, row)); break;
        }
    }

    private void rarely() {
        char sign = (char) random.nextInt(140);
        switch (random.nextInt(8)) {
            case 0: both("append " + (int) sign, () -> game.append(sign), () -> model.append(sign)); break;
            case 1: case 2: both("snapshot", game::snapshot, model::snapshot); break;
            case 3: case 4: both("restore", game::restore, model::restore); break;
            case 5: both("begin", game::begin, model::begin); break;
            case 6: both("load 5", () -> game.load(5), () -> model.load(5)); break;
            default:
                if (random.nextInt(4) == 0) {
                    load();
                    enlist(2 + random.nextInt(7));
                    both("begin", game::begin, model::begin);
                }
                break;
        }
    }

    private void compareAll() {
        both("unitCount", game::unitCount, model::unitCount);
        both("condition", game::condition, model::condition);
        both("round", game::round, model::round);
        both("current", game::current, model::current);
        both("eventCount", game::eventCount, model::eventCount);
        both("commandCount", game::commandCount, model::commandCount);
        both("errorPosition", game::errorPosition, model::errorPosition);
        for (int u = 0; u < model.unitCount(); u++) {
            for (int what = 0; what < 12; what++) {
                int unit = u;
                int asked = what;
                both("unit " + u + " " + what, () -> game.unit(unit, asked), () -> model.unit(unit, asked));
            }
        }
        for (int i = 0; i < model.eventCount(); i++) {
            for (int column = 0; column < 3; column++) {
                int index = i;
                int asked = column;
                both("event " + i + " " + column, () -> game.event(index, asked), () -> model.event(index, asked));
            }
        }
        for (int i = 0; i < 9; i++) {
            int index = i;
            both("order " + i, () -> game.order(index), () -> model.order(index));
        }
        for (int i = 0; i < model.height() * model.width() && random.nextInt(4) == 0; i++) {
            int goal = i;
            both("costs " + i, () -> game.costs(goal), () -> model.costs(goal));
            for (int step = 0; step < 4; step++) {
                int index = step;
                both("pathCell " + i + " " + step, () -> game.pathCell(goal, index), () -> model.pathCell(goal, index));
            }
        }
    }
}
