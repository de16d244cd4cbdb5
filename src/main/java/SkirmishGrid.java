import java.util.NoSuchElementException;

/** A turn-based skirmish of two teams on a grid. README.md tells how to use it. */
public final class SkirmishGrid {
    private static final int TEXT_LIMIT = 71;
    private static final int SIDE_MIN = 3;
    private static final int SIDE_LIMIT = 8;
    private static final int CELL_LIMIT = 64;
    private static final int UNIT_LIMIT = 8;
    private static final int EVENT_LIMIT = 40;
    private static final int UNDO_LIMIT = 8;
    /** An object is promised to work for this many calls, so that it never has more commands. */
    private static final int COMMAND_LIMIT = 512;

    private static final String SIGNS = ".#o~^";
    private static final int OPEN = 0;
    private static final int WALL = 1;
    private static final int BARRIER = 2;
    private static final int MUD = 3;
    private static final int FIRE = 4;

    private static final int UP = 0;
    private static final int RIGHT = 1;
    private static final int DOWN = 2;
    private static final int LEFT = 3;
    /** Greater than the costs of every path. */
    private static final int NO_PATH = 1000000;

    private static final int KIND_COUNT = 4;
    private static final int[] HEALTH = {8, 12, 18, 7};
    private static final int[] ARMOR = {0, 1, 3, 0};
    private static final int[] AIM = {4, 5, 3, 9};
    private static final int[] RANGE = {5, 6, 4, 8};
    private static final int[] SPEED = {6, 4, 3, 3};
    private static final int[] INITIATIVE = {8, 5, 2, 6};
    private static final int[] POWER = {2, 3, 5, 4};
    private static final int[] AMMUNITION = {6, 5, 4, 3};
    private static final int[] GRENADES = {1, 1, 1, 0};

    private static final int TURN_ACTIONS = 2;
    private static final int BURN_TURNS = 2;
    private static final int BURN_LOSS = 2;
    private static final int STUN_TURNS = 1;
    private static final int BLAST_REACH = 1;
    private static final int BLAST_LOSS = 3;
    private static final int THROW_REACH = 4;
    private static final int AIM_SIDES = 20;
    private static final int DAMAGE_SIDES = 4;

    private static final int MOVED = 1;
    private static final int HIT = 2;
    private static final int MISSED = 3;
    private static final int DIED = 4;
    private static final int BURNED = 5;
    private static final int STUNNED = 6;
    private static final int REACTED = 7;
    private static final int THREW = 8;
    private static final int ROUND_BEGAN = 9;

    private static final int MOVE = 0;
    private static final int ATTACK = 1;
    private static final int THROW = 2;
    private static final int GUARD = 3;
    private static final int WATCH = 4;
    private static final int RELOAD = 5;
    private static final int END_TURN = 6;

    private final char[] text = new char[TEXT_LIMIT];
    private int textLength;
    private int errorIndex = -1;
    private final Fight fight = new Fight();
    private final Commands commands = new Commands();
    private final History history = new History();
    private final Fight keptFight = new Fight();
    private final Commands keptCommands = new Commands();
    private boolean isKept;
    private final Fight replay = new Fight();
    private final Paths paths = new Paths();
    private final Row firstRow = new Row();
    private final Row secondRow = new Row();

    public SkirmishGrid() {
    }

    // The grid.

    public int append(char character) throws IllegalArgumentException, IllegalStateException {
        if (character < 32 || character > 126) {
            throw new IllegalArgumentException("no printable character");
        }
        if (textLength >= text.length) {
            throw new IllegalStateException("the buffer is full");
        }
        text[textLength] = character;
        textLength++;
        return textLength;
    }

    public int load(int seed) throws IllegalArgumentException, UnsupportedOperationException {
        int length = textLength;
        textLength = 0;
        int error = findError(text, length);
        if (error >= 0) {
            errorIndex = error;
            throw new IllegalArgumentException("malformed grid");
        }
        int columns = countColumns(text, length);
        int rows = (length + 1) / (columns + 1);
        if (!isSide(rows) || !isSide(columns)) {
            throw new UnsupportedOperationException("too few or too many rows or columns");
        }
        fight.reset(seed);
        fight.grid.read(text, length, rows, columns);
        commands.count = 0;
        history.clear();
        return 10 * rows + columns;
    }

    public int errorPosition() throws NoSuchElementException {
        if (errorIndex < 0) {
            throw new NoSuchElementException("no text was malformed");
        }
        return errorIndex;
    }

    public char terrain(int row, int column) throws IndexOutOfBoundsException {
        Grid grid = fight.grid;
        if (row < 0 || row >= grid.rows || column < 0 || column >= grid.columns) {
            throw new IndexOutOfBoundsException("no such cell");
        }
        int ground = grid.ground(row * grid.columns + column);
        return ground >= 0 && ground < SIGNS.length() ? SIGNS.charAt(ground) : '.';
    }

    public boolean isSeen(int cell, int other) throws IndexOutOfBoundsException {
        requireCell(cell);
        requireCell(other);
        return fight.grid.isClear(cell, other);
    }

    public int cover(int cell, int other) throws IndexOutOfBoundsException {
        requireCell(cell);
        requireCell(other);
        return fight.grid.coverOf(cell, other);
    }

    // Units.

    public int addUnit(int team, int kind, int cell)
            throws IndexOutOfBoundsException, IllegalArgumentException, IllegalStateException {
        requireTeam(team);
        if (kind < 0 || kind >= KIND_COUNT) {
            throw new IndexOutOfBoundsException("no such kind");
        }
        requireCell(cell);
        if (fight.grid.ground(cell) == WALL || fight.hasUnitOn(cell)) {
            throw new IllegalArgumentException("the cell is a wall or has a unit");
        }
        if (fight.hasBegun() || fight.unitCount >= UNIT_LIMIT) {
            throw new IllegalStateException("no units can be added any more");
        }
        return fight.enlist(team, kind, cell);
    }

    public int unitCount() {
        return fight.unitCount;
    }

    public int unit(int unit, int what) throws IndexOutOfBoundsException, IllegalArgumentException {
        Unit found = requireUnit(unit);
        switch (what) {
            case 0: return found.team;
            case 1: return found.kind;
            case 2: return found.cell;
            case 3: return found.health;
            case 4: return found.ammunition;
            case 5: return found.grenades;
            case 6: return unit == fight.current ? fight.actions : 0;
            case 7: return found.roll;
            case 8: return found.stunned;
            case 9: return found.burning;
            case 10: return found.isGuarding ? 1 : 0;
            case 11: return found.isWatching ? 1 : 0;
            default: throw new IllegalArgumentException("no such property");
        }
    }

    public int begin() throws IllegalStateException {
        if (fight.hasBegun() || !fight.goesOn()) {
            throw new IllegalStateException("the fight has begun, or a team has no units");
        }
        fight.startRounds();
        return fight.current;
    }

    public int condition() {
        if (!fight.hasBegun()) {
            return 0;
        }
        boolean firstLives = fight.hasLiving(0);
        boolean secondLives = fight.hasLiving(1);
        if (firstLives && secondLives) {
            return 1;
        }
        if (firstLives) {
            return 2;
        }
        return secondLives ? 3 : 4;
    }

    public int round() {
        return fight.round;
    }

    public int current() throws NoSuchElementException {
        if (fight.onTurn() == null) {
            throw new NoSuchElementException("the fight does not go on");
        }
        return fight.current;
    }

    public int order(int index) throws NoSuchElementException {
        if (!fight.hasBegun() || index < 0 || index >= fight.orderLength) {
            throw new NoSuchElementException("the order has no such index");
        }
        return fight.order[index];
    }

    // Looking ahead.

    public int costs(int cell)
            throws IndexOutOfBoundsException, UnsupportedOperationException, NoSuchElementException {
        requireCell(cell);
        return requirePath(requireTurn(), cell);
    }

    public int pathCell(int cell, int index)
            throws IndexOutOfBoundsException, UnsupportedOperationException, NoSuchElementException {
        requireCell(cell);
        Unit unit = requireTurn();
        requirePath(unit, cell);
        int reached = index < 0 ? -1 : unit.cell;
        for (int step = 0; step <= index && step < CELL_LIMIT && reached >= 0; step++) {
            reached = paths.next(fight.grid, reached);
        }
        if (reached < 0 || index >= CELL_LIMIT) {
            throw new NoSuchElementException("the path has no such index");
        }
        return reached;
    }

    public double chance(int unit, int target) throws IndexOutOfBoundsException, IllegalArgumentException {
        Unit from = requireUnit(unit);
        Unit to = requireUnit(target);
        requireTarget(from, to);
        return (double) fight.countHits(from, to) / (double) AIM_SIDES;
    }

    public double meanDamage(int unit, int target) throws IndexOutOfBoundsException, IllegalArgumentException {
        Unit from = requireUnit(unit);
        Unit to = requireUnit(target);
        requireTarget(from, to);
        return (double) fight.sumDamages(from, to) / (double) (AIM_SIDES * DAMAGE_SIDES);
    }

    public int bestTarget() throws UnsupportedOperationException, NoSuchElementException {
        int target = fight.chooseTarget(requireTurn());
        if (target < 0) {
            throw new NoSuchElementException("no unit can be attacked");
        }
        return target;
    }

    // Commands.

    public int move(int cell) throws IndexOutOfBoundsException, UnsupportedOperationException,
            IllegalStateException, IllegalArgumentException {
        requireCell(cell);
        Unit unit = requireTurn();
        requireActions();
        paths.measure(fight, cell);
        if (cell == unit.cell || paths.costsFrom(unit.cell) > SPEED[unit.kind]) {
            throw new IllegalArgumentException("the unit cannot move to this cell");
        }
        remember(MOVE, cell);
        return fight.walk(cell, paths);
    }

    public int attack(int target) throws IndexOutOfBoundsException, UnsupportedOperationException,
            IllegalStateException, IllegalArgumentException {
        Unit to = requireUnit(target);
        Unit unit = requireTurn();
        requireActions();
        requireAmmunition(unit);
        requireTarget(unit, to);
        remember(ATTACK, target);
        return fight.shoot(target);
    }

    public int throwAt(int cell) throws IndexOutOfBoundsException, UnsupportedOperationException,
            IllegalStateException, IllegalArgumentException {
        requireCell(cell);
        Unit unit = requireTurn();
        requireActions();
        if (unit.grenades < 1) {
            throw new IllegalStateException("no grenades");
        }
        if (!fight.canHurl(unit, cell)) {
            throw new IllegalArgumentException("no grenade can be thrown at this cell");
        }
        remember(THROW, cell);
        return fight.hurl(cell);
    }

    public int guard() throws UnsupportedOperationException, IllegalStateException {
        Unit unit = requireTurn();
        requireActions();
        if (unit.isGuarding) {
            throw new IllegalStateException("the unit guards already");
        }
        remember(GUARD, 0);
        return fight.startGuarding();
    }

    public int watch() throws UnsupportedOperationException, IllegalStateException {
        Unit unit = requireTurn();
        requireActions();
        requireAmmunition(unit);
        remember(WATCH, 0);
        return fight.startWatching();
    }

    public int reload() throws UnsupportedOperationException, IllegalStateException {
        requireTurn();
        requireActions();
        remember(RELOAD, 0);
        return fight.refill();
    }

    public int endTurn() throws UnsupportedOperationException {
        requireTurn();
        remember(END_TURN, 0);
        return fight.finishTurn();
    }

    // Events, undo, replay.

    public int eventCount() {
        return fight.events.count;
    }

    public int event(int index, int column) throws IndexOutOfBoundsException {
        if (index < 0 || index >= fight.events.count || column < 0 || column > 2) {
            throw new IndexOutOfBoundsException("no such event or column");
        }
        return fight.events.valueAt(index, column);
    }

    public int commandCount() {
        return commands.count;
    }

    public int undo() throws IllegalStateException {
        if (history.count < 1) {
            throw new IllegalStateException("no command can be undone");
        }
        history.takeBack(fight);
        commands.dropLast();
        return history.count;
    }

    public boolean isReplayed() throws IllegalStateException {
        if (!fight.hasBegun()) {
            throw new IllegalStateException("the fight has not begun");
        }
        replay.prepareLike(fight);
        replay.startRounds();
        for (int index = 0; index < commands.count && index < COMMAND_LIMIT; index++) {
            replay.carryOut(commands.kinds[index], commands.arguments[index], paths);
        }
        return replay.isSameAs(fight);
    }

    // Statistics and rows.

    public float meanHealth(int team) throws IndexOutOfBoundsException, ArithmeticException {
        requireTeam(team);
        int sum = 0;
        int number = 0;
        for (int index = 0; index < fight.unitCount; index++) {
            Unit unit = fight.units[index];
            if (unit.team == team) {
                sum += unit.health;
                number++;
            }
        }
        if (number == 0) {
            throw new ArithmeticException("the team has no units");
        }
        return (float) sum / (float) number;
    }

    public int storeHealths(int row, boolean exact) throws IndexOutOfBoundsException {
        Row stored = requireRow(row);
        stored.store(fight, exact);
        return stored.length;
    }

    public boolean copyHealths(int from, int count) throws IndexOutOfBoundsException,
            NoSuchElementException, UnsupportedOperationException, IllegalArgumentException {
        Row source = requireRow(from);
        Row target = requireRow(1 - from);
        if (!source.isStored || !target.isStored) {
            throw new NoSuchElementException("a row was not stored yet");
        }
        if (source.isExact != target.isExact) {
            throw new UnsupportedOperationException("the rows have different element types");
        }
        if (count < 0 || count > source.length || count > target.length) {
            throw new IllegalArgumentException("no such number of elements");
        }
        return target.takeFrom(source, count);
    }

    public int storedBits(int row, int index) throws IndexOutOfBoundsException, NoSuchElementException {
        Row stored = requireRow(row);
        if (!stored.isStored || index < 0 || index >= stored.length) {
            throw new NoSuchElementException("the row has no such element");
        }
        return bitsOf(stored.isExact ? (float) stored.whole[index] : stored.parts[index]);
    }

    // Snapshot.

    public int snapshot() {
        keptFight.copyFrom(fight);
        keptCommands.copyFrom(commands);
        isKept = true;
        return fight.unitCount;
    }

    public int restore() throws IllegalStateException {
        if (!isKept) {
            throw new IllegalStateException("there is no snapshot");
        }
        fight.copyFrom(keptFight);
        commands.copyFrom(keptCommands);
        history.clear();
        return fight.unitCount;
    }

    // What the calls require.

    private void requireCell(int cell) {
        if (!fight.grid.hasCell(cell)) {
            throw new IndexOutOfBoundsException("no such cell");
        }
    }

    private static void requireTeam(int team) {
        if (team != 0 && team != 1) {
            throw new IndexOutOfBoundsException("no such team");
        }
    }

    private Unit requireUnit(int number) {
        Unit unit = fight.find(number);
        if (unit == null) {
            throw new IndexOutOfBoundsException("no such unit");
        }
        return unit;
    }

    private Unit requireTurn() {
        Unit unit = fight.onTurn();
        if (unit == null) {
            throw new UnsupportedOperationException("the fight does not go on");
        }
        return unit;
    }

    private void requireActions() {
        if (fight.actions < 1) {
            throw new IllegalStateException("no actions");
        }
    }

    private static void requireAmmunition(Unit unit) {
        if (unit.ammunition < 1) {
            throw new IllegalStateException("no ammunition");
        }
    }

    private void requireTarget(Unit from, Unit to) {
        if (!fight.canStrike(from, to)) {
            throw new IllegalArgumentException("the target cannot be attacked");
        }
    }

    /** Returns the costs of the path and leaves it in paths. */
    private int requirePath(Unit unit, int cell) {
        paths.measure(fight, cell);
        int costs = paths.costsFrom(unit.cell);
        if (costs >= NO_PATH) {
            throw new NoSuchElementException("there is no path");
        }
        return costs;
    }

    private Row requireRow(int row) {
        if (row != 0 && row != 1) {
            throw new IndexOutOfBoundsException("no such row");
        }
        return row == 0 ? firstRow : secondRow;
    }

    /** To be called when nothing can refuse the command any more, and before it changes the fight. */
    private void remember(int command, int argument) {
        history.save(fight);
        commands.add(command, argument);
    }

    // The text of a grid, and bits.

    /** Returns the error position, or -1 if the text is well-formed. */
    private static int findError(char[] text, int length) {
        int width = -1;
        int cells = 0;
        for (int index = 0; index < length && index < text.length; index++) {
            if (text[index] == '/') {
                if (cells == 0 || width >= 0 && cells != width) {
                    return index;
                }
                width = cells;
                cells = 0;
            } else {
                if (SIGNS.indexOf(text[index]) < 0 || cells == width) {
                    return index;
                }
                cells++;
            }
        }
        return cells == 0 || width >= 0 && cells != width ? length : -1;
    }

    private static int countColumns(char[] text, int length) {
        int columns = 0;
        while (columns < length && columns < text.length && text[columns] != '/') {
            columns++;
        }
        return columns;
    }

    private static boolean isSide(int number) {
        return number >= SIDE_MIN && number <= SIDE_LIMIT;
    }

    /** The bits of a float that is 0 or in the normal range, and not negative. */
    private static int bitsOf(float value) {
        if (value == 0.0f) {
            return 0;
        }
        float scaled = value;
        int exponent = 127;
        for (int step = 0; step < 127 && scaled >= 2.0f; step++) {
            scaled = scaled / 2.0f;
            exponent++;
        }
        for (int step = 0; step < 126 && scaled < 1.0f; step++) {
            scaled = scaled * 2.0f;
            exponent--;
        }
        return (exponent << 23) | (int) ((scaled - 1.0f) * 8388608.0f);
    }

    /** The cells, with what can be said of them without units. */
    private static final class Grid {
        private final int[] cells = new int[CELL_LIMIT];
        int rows = 5;
        int columns = 5;

        void copyFrom(Grid other) {
            rows = other.rows;
            columns = other.columns;
            System.arraycopy(other.cells, 0, cells, 0, CELL_LIMIT);
        }

        /** The text is well-formed and has these rows and columns. */
        void read(char[] text, int length, int rowCount, int columnCount) {
            rows = rowCount;
            columns = columnCount;
            int cell = 0;
            for (int index = 0; index < length && index < text.length; index++) {
                int ground = SIGNS.indexOf(text[index]);
                if (ground >= 0 && cell < cells.length) {
                    cells[cell] = ground;
                    cell++;
                }
            }
        }

        boolean hasCell(int cell) {
            return cell >= 0 && cell < rows * columns;
        }

        int ground(int cell) {
            return cell >= 0 && cell < cells.length ? cells[cell] : WALL;
        }

        int rowOf(int cell) {
            return columns < 1 ? 0 : cell / columns;
        }

        int columnOf(int cell) {
            return columns < 1 ? 0 : cell % columns;
        }

        int distance(int from, int to) {
            int down = Math.abs(rowOf(to) - rowOf(from));
            int right = Math.abs(columnOf(to) - columnOf(from));
            return Math.max(down, right);
        }

        /** Returns the neighbor of a cell, or -1 if the grid ends there. */
        int neighbor(int cell, int direction) {
            int row = rowOf(cell);
            int column = columnOf(cell);
            switch (direction) {
                case UP: return row > 0 ? cell - columns : -1;
                case RIGHT: return column + 1 < columns ? cell + 1 : -1;
                case DOWN: return row + 1 < rows ? cell + columns : -1;
                case LEFT: return column > 0 ? cell - 1 : -1;
                default: return -1;
            }
        }

        int coverOf(int cell, int other) {
            int down = rowOf(other) - rowOf(cell);
            int right = columnOf(other) - columnOf(cell);
            int vertical = OPEN;
            if (down != 0) {
                vertical = ground(down < 0 ? cell - columns : cell + columns);
            }
            int horizontal = OPEN;
            if (right != 0) {
                horizontal = ground(right < 0 ? cell - 1 : cell + 1);
            }
            if (vertical == WALL || horizontal == WALL) {
                return 2;
            }
            return vertical == BARRIER || horizontal == BARRIER ? 1 : 0;
        }

        boolean isClear(int from, int to) {
            int count = Math.min(rows * columns, cells.length);
            for (int cell = 0; cell < count; cell++) {
                if (cells[cell] == WALL && cell != from && cell != to && isInWay(cell, from, to)) {
                    return false;
                }
            }
            return true;
        }

        /**
         * The lengths are seen from the wall's center and doubled, so that its edges are at -1 and 1
         * and everything stays in whole numbers.
         */
        private boolean isInWay(int wall, int from, int to) {
            int fromDown = 2 * (rowOf(from) - rowOf(wall));
            int fromRight = 2 * (columnOf(from) - columnOf(wall));
            int toDown = 2 * (rowOf(to) - rowOf(wall));
            int toRight = 2 * (columnOf(to) - columnOf(wall));
            if (fromDown >= 1 && toDown >= 1 || fromDown <= -1 && toDown <= -1) {
                return false;
            }
            if (fromRight >= 1 && toRight >= 1 || fromRight <= -1 && toRight <= -1) {
                return false;
            }
            // The line passes inside if it has corners of the square strictly on both sides of it.
            int down = toDown - fromDown;
            int right = toRight - fromRight;
            int center = down * fromRight - right * fromDown;
            return Math.abs(center) < Math.abs(down) + Math.abs(right);
        }
    }

    private static final class Unit {
        final int number;
        int team;
        int kind;
        /** Where it was added, for the replay. */
        int firstCell;
        int cell;
        int health;
        int ammunition;
        int grenades;
        int roll;
        int stunned;
        int burning;
        boolean isGuarding;
        boolean isWatching;

        Unit(int ownNumber) {
            number = ownNumber;
        }

        /** The kind is one of the document's. */
        void enter(int ownTeam, int ownKind, int ownCell) {
            team = ownTeam;
            kind = ownKind;
            firstCell = ownCell;
            cell = ownCell;
            health = HEALTH[ownKind];
            ammunition = AMMUNITION[ownKind];
            grenades = GRENADES[ownKind];
            roll = 0;
            stunned = 0;
            burning = 0;
            isGuarding = false;
            isWatching = false;
        }

        boolean lives() {
            return health > 0;
        }

        void lose(int loss) {
            health = loss < health ? health - loss : 0;
        }

        void shortenStatuses() {
            stunned = stunned > 0 ? stunned - 1 : 0;
            burning = burning > 0 ? burning - 1 : 0;
        }

        void copyFrom(Unit other) {
            team = other.team;
            kind = other.kind;
            firstCell = other.firstCell;
            cell = other.cell;
            health = other.health;
            ammunition = other.ammunition;
            grenades = other.grenades;
            roll = other.roll;
            stunned = other.stunned;
            burning = other.burning;
            isGuarding = other.isGuarding;
            isWatching = other.isWatching;
        }

        boolean isSameAs(Unit other) {
            return team == other.team && kind == other.kind && cell == other.cell
                    && health == other.health && ammunition == other.ammunition
                    && grenades == other.grenades && roll == other.roll
                    && stunned == other.stunned && burning == other.burning
                    && isGuarding == other.isGuarding && isWatching == other.isWatching;
        }
    }

    /** The latest events, the oldest one first. */
    private static final class Events {
        private final int[] kinds = new int[EVENT_LIMIT];
        private final int[] units = new int[EVENT_LIMIT];
        private final int[] numbers = new int[EVENT_LIMIT];
        int count;

        void note(int kind, int unit, int number) {
            if (count >= EVENT_LIMIT) {
                count = EVENT_LIMIT - 1;
                System.arraycopy(kinds, 1, kinds, 0, count);
                System.arraycopy(units, 1, units, 0, count);
                System.arraycopy(numbers, 1, numbers, 0, count);
            }
            kinds[count] = kind;
            units[count] = unit;
            numbers[count] = number;
            count++;
        }

        /** The index is one of an event that is kept. */
        int valueAt(int index, int column) {
            switch (column) {
                case 0: return kinds[index];
                case 1: return units[index];
                default: return numbers[index];
            }
        }

        void copyFrom(Events other) {
            count = other.count;
            System.arraycopy(other.kinds, 0, kinds, 0, count);
            System.arraycopy(other.units, 0, units, 0, count);
            System.arraycopy(other.numbers, 0, numbers, 0, count);
        }

        boolean isSameAs(Events other) {
            if (count != other.count) {
                return false;
            }
            for (int index = 0; index < count; index++) {
                if (kinds[index] != other.kinds[index] || units[index] != other.units[index]
                        || numbers[index] != other.numbers[index]) {
                    return false;
                }
            }
            return true;
        }
    }

    /** All that a command can change, with the rules of the fight. */
    private static final class Fight {
        final Grid grid = new Grid();
        final Unit[] units = new Unit[UNIT_LIMIT];
        int unitCount;
        final int[] order = new int[UNIT_LIMIT];
        int orderLength;
        /** The index in the order of the unit that had the latest turn. */
        private int turn;
        /** The unit that has its turn, or -1 if the fight does not go on. */
        int current = -1;
        int actions;
        int round;
        private int seed = 1;
        private int z = 1;
        final Events events = new Events();

        Fight() {
            for (int number = 0; number < UNIT_LIMIT; number++) {
                units[number] = new Unit(number);
            }
        }

        void reset(int newSeed) {
            unitCount = 0;
            orderLength = 0;
            turn = 0;
            current = -1;
            actions = 0;
            round = 0;
            seed = newSeed;
            z = newSeed;
            events.count = 0;
        }

        void copyFrom(Fight other) {
            grid.copyFrom(other.grid);
            unitCount = other.unitCount;
            for (int number = 0; number < unitCount; number++) {
                units[number].copyFrom(other.units[number]);
            }
            System.arraycopy(other.order, 0, order, 0, UNIT_LIMIT);
            orderLength = other.orderLength;
            turn = other.turn;
            current = other.current;
            actions = other.actions;
            round = other.round;
            seed = other.seed;
            z = other.z;
            events.copyFrom(other.events);
        }

        /** Takes the grid, the seed and the units of another fight as they were before it began. */
        void prepareLike(Fight other) {
            reset(other.seed);
            grid.copyFrom(other.grid);
            for (int number = 0; number < other.unitCount; number++) {
                Unit unit = other.units[number];
                enlist(unit.team, unit.kind, unit.firstCell);
            }
        }

        boolean isSameAs(Fight other) {
            if (unitCount != other.unitCount || orderLength != other.orderLength || turn != other.turn
                    || current != other.current || actions != other.actions || round != other.round
                    || z != other.z) {
                return false;
            }
            for (int number = 0; number < unitCount; number++) {
                if (!units[number].isSameAs(other.units[number])) {
                    return false;
                }
            }
            for (int index = 0; index < orderLength; index++) {
                if (order[index] != other.order[index]) {
                    return false;
                }
            }
            return events.isSameAs(other.events);
        }

        boolean hasBegun() {
            return round > 0;
        }

        boolean hasLiving(int team) {
            for (int number = 0; number < unitCount; number++) {
                if (units[number].team == team && units[number].lives()) {
                    return true;
                }
            }
            return false;
        }

        boolean goesOn() {
            return hasLiving(0) && hasLiving(1);
        }

        boolean hasUnitOn(int cell) {
            for (int number = 0; number < unitCount; number++) {
                if (units[number].cell == cell) {
                    return true;
                }
            }
            return false;
        }

        /** Returns the unit with this number, or null. */
        Unit find(int number) {
            return number >= 0 && number < unitCount ? units[number] : null;
        }

        /** Returns the unit that has its turn, or null. */
        Unit onTurn() {
            return current >= 0 && current < unitCount ? units[current] : null;
        }

        int enlist(int team, int kind, int cell) {
            if (unitCount >= UNIT_LIMIT) {
                return -1;
            }
            units[unitCount].enter(team, kind, cell);
            unitCount++;
            return unitCount - 1;
        }

        private int rollDie(int sides) {
            z = z * 1103515245 + 12345;
            return sides < 1 ? 1 : (z >>> 16) % sides + 1;
        }

        // Rounds and turns.

        void startRounds() {
            beginRound();
            passTurn();
        }

        /** Leaves the turn before the first one of the order. */
        private void beginRound() {
            round++;
            events.note(ROUND_BEGAN, -1, round);
            orderLength = 0;
            turn = -1;
            for (int number = 0; number < unitCount; number++) {
                Unit unit = units[number];
                unit.roll = 0;
                if (unit.lives()) {
                    unit.roll = rollDie(6) + INITIATIVE[unit.kind];
                    insertByRoll(unit);
                }
            }
        }

        /** Units come by ascending numbers, so that a later one stands behind those with the same roll. */
        private void insertByRoll(Unit unit) {
            int place = orderLength;
            while (place > 0 && units[order[place - 1]].roll < unit.roll) {
                order[place] = order[place - 1];
                place--;
            }
            order[place] = unit.number;
            orderLength++;
        }

        /**
         * Gives the turn to the next unit that lives then. Each try without success is for a unit that
         * lives no more, so that there are fewer than twice as many as units.
         */
        private void passTurn() {
            current = -1;
            actions = 0;
            for (int tries = 0; tries < 2 * UNIT_LIMIT && current < 0 && goesOn(); tries++) {
                if (turn + 1 >= orderLength) {
                    beginRound();
                }
                turn++;
                beginTurn(units[order[turn]]);
            }
        }

        private void beginTurn(Unit unit) {
            if (!unit.lives()) {
                return;
            }
            unit.isGuarding = false;
            unit.isWatching = false;
            if (unit.burning > 0) {
                unit.lose(BURN_LOSS);
                events.note(BURNED, unit.number, BURN_LOSS);
            }
            if (unit.lives()) {
                current = unit.number;
                actions = unit.stunned > 0 ? 0 : TURN_ACTIONS;
            } else {
                events.note(DIED, unit.number, 0);
            }
        }

        /** Looks after a command whether the fight is over, or at least the turn of a unit that died. */
        private void settle(Unit unit) {
            if (!goesOn()) {
                current = -1;
                actions = 0;
            } else if (!unit.lives()) {
                passTurn();
            }
        }

        // Attacks.

        boolean canStrike(Unit from, Unit to) {
            return from.lives() && to.lives() && from.team != to.team
                    && grid.distance(from.cell, to.cell) <= RANGE[from.kind]
                    && grid.isClear(from.cell, to.cell);
        }

        /** Returns the least result of the die that hits without being 20. */
        private int neededResult(Unit from, Unit to) {
            return 8 + grid.distance(from.cell, to.cell) + 3 * grid.coverOf(to.cell, from.cell)
                    + (to.isGuarding ? 2 : 0) - AIM[from.kind];
        }

        private static boolean isHit(int result, int needed) {
            return result == AIM_SIDES || result > 1 && result >= needed;
        }

        private static int damageOf(Unit from, Unit to, int result, int extra) {
            int damage = Math.max(1, extra + POWER[from.kind] - ARMOR[to.kind]);
            return result == AIM_SIDES ? 2 * damage : damage;
        }

        int countHits(Unit from, Unit to) {
            int needed = neededResult(from, to);
            int hits = 0;
            for (int result = 1; result <= AIM_SIDES; result++) {
                if (isHit(result, needed)) {
                    hits++;
                }
            }
            return hits;
        }

        int sumDamages(Unit from, Unit to) {
            int needed = neededResult(from, to);
            int sum = 0;
            for (int result = 1; result <= AIM_SIDES; result++) {
                for (int extra = 1; extra <= DAMAGE_SIDES; extra++) {
                    if (isHit(result, needed)) {
                        sum += damageOf(from, to, result, extra);
                    }
                }
            }
            return sum;
        }

        /** Returns the best target, or -1. */
        int chooseTarget(Unit from) {
            int best = -1;
            int bestSum = 0;
            int bestHealth = 0;
            for (int number = 0; number < unitCount; number++) {
                Unit to = units[number];
                if (canStrike(from, to)) {
                    int sum = sumDamages(from, to);
                    if (best < 0 || sum > bestSum || sum == bestSum && to.health < bestHealth) {
                        best = number;
                        bestSum = sum;
                        bestHealth = to.health;
                    }
                }
            }
            return best;
        }

        /** Returns the damage, 0 for a miss. */
        private int strike(Unit from, Unit to) {
            from.ammunition--;
            int result = rollDie(AIM_SIDES);
            if (!isHit(result, neededResult(from, to))) {
                events.note(MISSED, from.number, to.number);
                return 0;
            }
            int damage = damageOf(from, to, result, rollDie(DAMAGE_SIDES));
            to.lose(damage);
            events.note(HIT, from.number, damage);
            if (!to.lives()) {
                events.note(DIED, to.number, 0);
            }
            return damage;
        }

        // Commands; all of them expect that the face has let them pass.

        int carryOut(int command, int argument, Paths paths) {
            switch (command) {
                case MOVE: return walk(argument, paths);
                case ATTACK: return shoot(argument);
                case THROW: return hurl(argument);
                case GUARD: return startGuarding();
                case WATCH: return startWatching();
                case RELOAD: return refill();
                default: return finishTurn();
            }
        }

        int walk(int cell, Paths paths) {
            Unit unit = onTurn();
            if (unit == null) {
                return -1;
            }
            actions--;
            paths.measure(this, cell);
            boolean isStopped = false;
            for (int step = 0; step < CELL_LIMIT && !isStopped && unit.cell != cell; step++) {
                int next = paths.next(grid, unit.cell);
                isStopped = next < 0 || isStoppedIn(next, unit);
            }
            events.note(MOVED, unit.number, unit.cell);
            settle(unit);
            return unit.cell;
        }

        /** Lets a moving unit enter a cell, and tells whether a reaction ends the move there. */
        private boolean isStoppedIn(int cell, Unit unit) {
            unit.cell = cell;
            if (grid.ground(cell) == FIRE) {
                unit.burning = BURN_TURNS;
            }
            for (int number = 0; number < unitCount; number++) {
                Unit other = units[number];
                if (other.isWatching && other.ammunition > 0 && canStrike(other, unit)) {
                    other.isWatching = false;
                    events.note(REACTED, number, unit.number);
                    if (strike(other, unit) > 0) {
                        return true;
                    }
                }
            }
            return false;
        }

        int shoot(int target) {
            Unit unit = onTurn();
            Unit to = find(target);
            if (unit == null || to == null) {
                return 0;
            }
            actions--;
            int damage = strike(unit, to);
            settle(unit);
            return damage;
        }

        boolean canHurl(Unit unit, int cell) {
            return grid.ground(cell) != WALL && grid.distance(unit.cell, cell) <= THROW_REACH
                    && grid.isClear(unit.cell, cell);
        }

        /** Returns the number of units that lose health. */
        int hurl(int cell) {
            Unit unit = onTurn();
            if (unit == null) {
                return 0;
            }
            actions--;
            unit.grenades--;
            events.note(THREW, unit.number, cell);
            int hurt = 0;
            for (int number = 0; number < unitCount; number++) {
                Unit other = units[number];
                if (other.lives() && grid.distance(other.cell, cell) <= BLAST_REACH) {
                    suffer(other);
                    hurt++;
                }
            }
            settle(unit);
            return hurt;
        }

        private void suffer(Unit unit) {
            unit.lose(BLAST_LOSS);
            if (!unit.lives()) {
                events.note(DIED, unit.number, 0);
            } else if (rollDie(6) >= 5 && unit.stunned == 0) {
                unit.stunned = STUN_TURNS;
                events.note(STUNNED, unit.number, STUN_TURNS);
            }
        }

        /** Returns the actions that are left. */
        int startGuarding() {
            Unit unit = onTurn();
            if (unit == null) {
                return 0;
            }
            unit.isGuarding = true;
            actions--;
            return actions;
        }

        /** Returns the actions that it uses. */
        int startWatching() {
            Unit unit = onTurn();
            if (unit == null) {
                return 0;
            }
            unit.isWatching = true;
            int used = actions;
            actions = 0;
            return used;
        }

        /** Returns the ammunition that the unit had. */
        int refill() {
            Unit unit = onTurn();
            if (unit == null) {
                return 0;
            }
            int had = unit.ammunition;
            unit.ammunition = AMMUNITION[unit.kind];
            actions--;
            return had;
        }

        /** Returns the unit that has its turn then, or -1. */
        int finishTurn() {
            Unit unit = onTurn();
            if (unit == null) {
                return -1;
            }
            unit.shortenStatuses();
            passTurn();
            return current;
        }
    }

    /** The cheapest paths from everywhere to one cell, so that each first step can be chosen by its direction. */
    private static final class Paths {
        /** The costs of entering a cell, 0 if that is not possible. */
        private final int[] entering = new int[CELL_LIMIT];
        private final int[] costs = new int[CELL_LIMIT];
        private final boolean[] isSettled = new boolean[CELL_LIMIT];
        private int count;

        /** For the unit that has its turn, whose own cell is a goal too. */
        void measure(Fight fight, int goal) {
            clear(fight);
            Unit mover = fight.onTurn();
            boolean isOwnCell = mover != null && mover.cell == goal;
            if (goal < 0 || goal >= count || entering[goal] == 0 && !isOwnCell) {
                return;
            }
            costs[goal] = 0;
            int cell = goal;
            for (int settled = 0; settled < CELL_LIMIT && cell >= 0; settled++) {
                isSettled[cell] = true;
                spread(fight.grid, cell);
                cell = findCheapest();
            }
        }

        private void clear(Fight fight) {
            Grid grid = fight.grid;
            count = Math.min(grid.rows * grid.columns, CELL_LIMIT);
            for (int cell = 0; cell < count; cell++) {
                int ground = grid.ground(cell);
                entering[cell] = ground == MUD || ground == BARRIER ? 2 : 1;
                if (ground == WALL) {
                    entering[cell] = 0;
                }
                costs[cell] = NO_PATH;
                isSettled[cell] = false;
            }
            for (int number = 0; number < fight.unitCount; number++) {
                Unit unit = fight.units[number];
                if (unit.lives() && unit.cell < count) {
                    entering[unit.cell] = 0;
                }
            }
        }

        private void spread(Grid grid, int cell) {
            if (entering[cell] == 0) {
                return;
            }
            int costsThere = costs[cell] + entering[cell];
            for (int direction = UP; direction <= LEFT; direction++) {
                int before = grid.neighbor(cell, direction);
                if (before >= 0 && before < count && costsThere < costs[before]) {
                    costs[before] = costsThere;
                }
            }
        }

        /** Returns the cheapest cell that is not settled, or -1 if no other one can reach the goal. */
        private int findCheapest() {
            int cheapest = -1;
            int least = NO_PATH;
            for (int cell = 0; cell < count; cell++) {
                if (!isSettled[cell] && costs[cell] < least) {
                    cheapest = cell;
                    least = costs[cell];
                }
            }
            return cheapest;
        }

        /** Returns the costs, NO_PATH or more if there is no path. */
        int costsFrom(int cell) {
            return cell >= 0 && cell < count ? costs[cell] : NO_PATH;
        }

        /** Returns the cell that the path enters next, or -1 at its end. */
        int next(Grid grid, int cell) {
            if (costsFrom(cell) >= NO_PATH) {
                return -1;
            }
            for (int direction = UP; direction <= LEFT; direction++) {
                int after = grid.neighbor(cell, direction);
                if (after >= 0 && after < count && entering[after] > 0
                        && costs[after] + entering[after] == costs[cell]) {
                    return after;
                }
            }
            return -1;
        }
    }

    /** The commands since the fight began. */
    private static final class Commands {
        final int[] kinds = new int[COMMAND_LIMIT];
        final int[] arguments = new int[COMMAND_LIMIT];
        int count;

        void add(int kind, int argument) {
            if (count < COMMAND_LIMIT) {
                kinds[count] = kind;
                arguments[count] = argument;
                count++;
            }
        }

        void dropLast() {
            if (count > 0) {
                count--;
            }
        }

        void copyFrom(Commands other) {
            count = other.count;
            System.arraycopy(other.kinds, 0, kinds, 0, count);
            System.arraycopy(other.arguments, 0, arguments, 0, count);
        }
    }

    /** The fights before the latest commands, in places that are used again in turn. */
    private static final class History {
        private final Fight[] before = new Fight[UNDO_LIMIT];
        private int newest;
        int count;

        History() {
            for (int place = 0; place < UNDO_LIMIT; place++) {
                before[place] = new Fight();
            }
        }

        void clear() {
            count = 0;
        }

        void save(Fight fight) {
            newest = (newest + 1) % UNDO_LIMIT;
            before[newest].copyFrom(fight);
            count = Math.min(count + 1, UNDO_LIMIT);
        }

        /** There is a fight that was saved. */
        void takeBack(Fight fight) {
            fight.copyFrom(before[newest]);
            newest = (newest + UNDO_LIMIT - 1) % UNDO_LIMIT;
            count--;
        }
    }

    /** A stored row of healths; its elements are either ints or floats. */
    private static final class Row {
        final int[] whole = new int[UNIT_LIMIT];
        final float[] parts = new float[UNIT_LIMIT];
        boolean isStored;
        boolean isExact;
        int length;

        void store(Fight fight, boolean exact) {
            isStored = true;
            isExact = exact;
            length = fight.unitCount;
            for (int index = 0; index < length; index++) {
                Unit unit = fight.units[index];
                whole[index] = unit.health;
                parts[index] = (float) unit.health / (float) HEALTH[unit.kind];
            }
        }

        /** Tells whether an element has changed; both rows have the same type and the elements. */
        boolean takeFrom(Row other, int count) {
            boolean isChanged = false;
            for (int index = 0; index < count; index++) {
                if (isExact ? whole[index] != other.whole[index] : parts[index] != other.parts[index]) {
                    isChanged = true;
                }
                whole[index] = other.whole[index];
                parts[index] = other.parts[index];
            }
            return isChanged;
        }
    }
}
