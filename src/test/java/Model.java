import java.util.ArrayList;
import java.util.List;
import java.util.NoSuchElementException;
import java.util.TreeMap;

/**
 * The document once more, in other ways than the class's: fractions for sight, all path texts for paths,
 * copies of whole lists for undo. Only for comparing.
 */
final class Model {
    static final int[][] KINDS = {
        {8, 0, 4, 5, 6, 8, 2, 6, 1}, {12, 1, 5, 6, 4, 5, 3, 5, 1}, {18, 3, 3, 4, 3, 2, 5, 4, 1}, {7, 0, 9, 8, 3, 6, 4, 3, 0}};

    static final class Man implements Cloneable {
        int team, kind, cell, health, ammo, grenades, roll, stun, burn;
        boolean guards, watches;

        Man copy() {
            try {
                return (Man) clone();
            } catch (CloneNotSupportedException e) {
                throw new IllegalStateException(e);
            }
        }

        boolean alive() {
            return health > 0;
        }
    }

    static final class World {
        List<String> grid = new ArrayList<>(List.of(".....", ".....", ".....", ".....", "....."));
        List<Man> men = new ArrayList<>();
        List<Integer> order = new ArrayList<>();
        List<Integer> waiting = new ArrayList<>();
        List<List<Integer>> events = new ArrayList<>();
        List<int[]> commands = new ArrayList<>();
        int now = -1, actions = 0, round = 0, z = 1;

        World copy() {
            World w = new World();
            w.grid = new ArrayList<>(grid);
            for (Man m : men) {
                w.men.add(m.copy());
            }
            w.order.addAll(order);
            w.waiting.addAll(waiting);
            w.events.addAll(events);
            w.commands.addAll(commands);
            w.now = now;
            w.actions = actions;
            w.round = round;
            w.z = z;
            return w;
        }
    }

    World w = new World();
    World kept = null;
    List<World> past = new ArrayList<>();
    String buffer = "";
    int error = -1;
    Object[] rows = new Object[2];

    // Geometry.

    int height() {
        return w.grid.size();
    }

    int width() {
        return w.grid.get(0).length();
    }

    char at(int cell) {
        return w.grid.get(cell / width()).charAt(cell % width());
    }

    void cell(int cell) {
        if (cell < 0 || cell >= height() * width()) {
            throw new IndexOutOfBoundsException();
        }
    }

    int far(int a, int b) {
        return Math.max(Math.abs(a / width() - b / width()), Math.abs(a % width() - b % width()));
    }

    /** Cuts the line, as the parameters t from 0 to 1, by the four edges of each wall; all over one denominator. */
    boolean seen(int a, int b) {
        for (int c = 0; c < height() * width(); c++) {
            if (at(c) == '#' && c != a && c != b && cuts(a, b, c)) {
                return false;
            }
        }
        return true;
    }

    boolean cuts(int a, int b, int c) {
        long dy = 2L * (b / width() - a / width());
        long dx = 2L * (b % width() - a % width());
        long y = 2L * (a / width() - c / width());
        long x = 2L * (a % width() - c % width());
        long common = Math.max(1, Math.abs(dy)) * Math.max(1, Math.abs(dx));
        long low = 0;
        long high = common;
        boolean openLow = false;
        boolean openHigh = false;
        for (long[] p : new long[][] {{y, dy}, {x, dx}}) {
            if (p[1] == 0) {
                if (p[0] <= -1 || p[0] >= 1) {
                    return false;
                }
                continue;
            }
            long first = (-1 - p[0]) * common / p[1];
            long second = (1 - p[0]) * common / p[1];
            long from = Math.min(first, second);
            long to = Math.max(first, second);
            if (from >= low) {
                low = from;
                openLow = true;
            }
            if (to <= high) {
                high = to;
                openHigh = true;
            }
        }
        return openLow || openHigh ? low < high : low <= high;
    }

    int coverOf(int a, int b) {
        List<Character> near = new ArrayList<>();
        for (int c = 0; c < height() * width(); c++) {
            boolean sameColumn = c % width() == a % width();
            boolean sameRow = c / width() == a / width();
            int down = c / width() - a / width();
            int right = c % width() - a % width();
            if (sameColumn && Math.abs(down) == 1 && Integer.signum(b / width() - a / width()) == down
                    || sameRow && Math.abs(right) == 1 && Integer.signum(b % width() - a % width()) == right) {
                near.add(at(c));
            }
        }
        return near.contains('#') ? 2 : near.contains('o') ? 1 : 0;
    }

    // The face.

    int append(char c) {
        if (c < 32 || c > 126) {
            throw new IllegalArgumentException();
        }
        if (buffer.length() == 71) {
            throw new IllegalStateException();
        }
        buffer += c;
        return buffer.length();
    }

    /** Whether a text can become a grid's text, or is one. */
    static boolean goesOn(String s) {
        String[] parts = s.split("/", -1);
        for (int i = 0; i < parts.length; i++) {
            boolean last = i == parts.length - 1;
            if (!parts[i].matches("[.#o~^]*") || !last && parts[i].isEmpty()
                    || !last && parts[i].length() != parts[0].length()
                    || last && i > 0 && parts[i].length() > parts[0].length()) {
                return false;
            }
        }
        return true;
    }

    int load(int seed) {
        String s = buffer;
        buffer = "";
        for (int i = 1; i <= s.length(); i++) {
            if (!goesOn(s.substring(0, i))) {
                error = i - 1;
                throw new IllegalArgumentException();
            }
        }
        String[] parts = s.split("/", -1);
        if (parts[0].isEmpty() || parts[parts.length - 1].length() != parts[0].length()) {
            error = s.length();
            throw new IllegalArgumentException();
        }
        int r = parts.length;
        int c = parts[0].length();
        if (r < 3 || r > 8 || c < 3 || c > 8) {
            throw new UnsupportedOperationException();
        }
        w = new World();
        w.grid = new ArrayList<>(List.of(parts));
        w.z = seed;
        past.clear();
        first = null;
        return r * 10 + c;
    }

    int errorPosition() {
        if (error < 0) {
            throw new NoSuchElementException();
        }
        return error;
    }

    char terrain(int r, int c) {
        if (r < 0 || c < 0 || r >= height() || c >= width()) {
            throw new IndexOutOfBoundsException();
        }
        return w.grid.get(r).charAt(c);
    }

    boolean isSeen(int a, int b) {
        cell(a);
        cell(b);
        return seen(a, b);
    }

    int cover(int a, int b) {
        cell(a);
        cell(b);
        return coverOf(a, b);
    }

    int addUnit(int team, int kind, int c) {
        if (team < 0 || team > 1 || kind < 0 || kind > 3) {
            throw new IndexOutOfBoundsException();
        }
        cell(c);
        if (at(c) == '#' || w.men.stream().anyMatch(m -> m.cell == c)) {
            throw new IllegalArgumentException();
        }
        if (w.round > 0 || w.men.size() == 8) {
            throw new IllegalStateException();
        }
        Man m = new Man();
        m.team = team;
        m.kind = kind;
        m.cell = c;
        m.health = KINDS[kind][0];
        m.ammo = KINDS[kind][7];
        m.grenades = KINDS[kind][8];
        w.men.add(m);
        return w.men.size() - 1;
    }

    int unitCount() {
        return w.men.size();
    }

    Man man(int u) {
        if (u < 0 || u >= w.men.size()) {
            throw new IndexOutOfBoundsException();
        }
        return w.men.get(u);
    }

    int unit(int u, int what) {
        Man m = man(u);
        int[] all = {m.team, m.kind, m.cell, m.health, m.ammo, m.grenades, w.now == u ? w.actions : 0, m.roll, m.stun,
            m.burn, m.guards ? 1 : 0, m.watches ? 1 : 0};
        if (what < 0 || what >= all.length) {
            throw new IllegalArgumentException();
        }
        return all[what];
    }

    /** The world before the first round, for the replay. */
    World first = null;

    int begin() {
        if (w.round > 0 || !both()) {
            throw new IllegalStateException();
        }
        first = w.copy();
        newRound();
        nextTurn();
        return w.now;
    }

    boolean both() {
        return side(0) && side(1);
    }

    boolean side(int team) {
        return w.men.stream().anyMatch(m -> m.team == team && m.alive());
    }

    int die(int n) {
        w.z = w.z * 1103515245 + 12345;
        return (w.z >>> 16) % n + 1;
    }

    void event(int... e) {
        w.events.add(List.of(e[0], e[1], e[2]));
        while (w.events.size() > 40) {
            w.events.remove(0);
        }
    }

    void newRound() {
        w.round++;
        event(9, -1, w.round);
        TreeMap<Integer, Integer> places = new TreeMap<>();
        for (int i = 0; i < w.men.size(); i++) {
            Man m = w.men.get(i);
            m.roll = m.alive() ? die(6) + KINDS[m.kind][5] : 0;
            if (m.alive()) {
                places.put(-m.roll * 100 + i, i);
            }
        }
        w.order = new ArrayList<>(places.values());
        w.waiting = new ArrayList<>(places.values());
    }

    void nextTurn() {
        w.now = -1;
        w.actions = 0;
        while (both()) {
            if (w.waiting.isEmpty()) {
                newRound();
            }
            int u = w.waiting.remove(0);
            Man m = w.men.get(u);
            if (!m.alive()) {
                continue;
            }
            m.guards = false;
            m.watches = false;
            if (m.burn > 0) {
                m.health = Math.max(0, m.health - 2);
                event(5, u, 2);
                if (!m.alive()) {
                    event(4, u, 0);
                    continue;
                }
            }
            w.now = u;
            w.actions = m.stun > 0 ? 0 : 2;
            return;
        }
    }

    void after() {
        if (!both()) {
            w.now = -1;
            w.actions = 0;
        } else if (!w.men.get(w.now).alive()) {
            nextTurn();
        }
    }

    int condition() {
        return w.round == 0 ? 0 : side(0) ? side(1) ? 1 : 2 : side(1) ? 3 : 4;
    }

    int round() {
        return w.round;
    }

    int current() {
        if (w.now < 0) {
            throw new NoSuchElementException();
        }
        return w.now;
    }

    int order(int i) {
        if (i < 0 || i >= w.order.size()) {
            throw new NoSuchElementException();
        }
        return w.order.get(i);
    }

    Man turn() {
        if (w.now < 0) {
            throw new UnsupportedOperationException();
        }
        return w.men.get(w.now);
    }

    /** The best path as a text: its costs, then its steps; texts of equal costs compare as the document orders. */
    String path(int goal) {
        int start = turn().cell;
        String[] best = new String[height() * width()];
        best[start] = "";
        int[] costs = new int[best.length];
        boolean changed = true;
        while (changed) {
            changed = false;
            for (int c = 0; c < best.length; c++) {
                for (int d = 0; best[c] != null && d < 4; d++) {
                    int r = c / width() + new int[] {-1, 0, 1, 0}[d];
                    int k = c % width() + new int[] {0, 1, 0, -1}[d];
                    if (r < 0 || k < 0 || r >= height() || k >= width()) {
                        continue;
                    }
                    int to = r * width() + k;
                    if (at(to) == '#' || w.men.stream().anyMatch(m -> m.alive() && m.cell == to)) {
                        continue;
                    }
                    int sum = costs[c] + (at(to) == '~' || at(to) == 'o' ? 2 : 1);
                    String steps = best[c] + d;
                    if (best[to] == null || sum < costs[to] || sum == costs[to] && steps.compareTo(best[to]) < 0) {
                        best[to] = steps;
                        costs[to] = sum;
                        changed = true;
                    }
                }
            }
        }
        return best[goal] == null ? null : costs[goal] + ":" + best[goal];
    }

    List<Integer> cells(String path) {
        List<Integer> list = new ArrayList<>();
        int c = turn().cell;
        for (char d : path.substring(path.indexOf(':') + 1).toCharArray()) {
            c += new int[] {-width(), 1, width(), -1}[d - '0'];
            list.add(c);
        }
        return list;
    }

    int costs(int c) {
        cell(c);
        turn();
        String p = path(c);
        if (p == null) {
            throw new NoSuchElementException();
        }
        return Integer.parseInt(p.substring(0, p.indexOf(':')));
    }

    int pathCell(int c, int i) {
        costs(c);
        List<Integer> list = cells(path(c));
        if (i < 0 || i >= list.size()) {
            throw new NoSuchElementException();
        }
        return list.get(i);
    }

    boolean can(Man a, Man b) {
        return a.alive() && b.alive() && a.team != b.team && seen(a.cell, b.cell)
                && far(a.cell, b.cell) <= KINDS[a.kind][3];
    }

    boolean hits(Man a, Man b, int result) {
        if (result == 20 || result == 1) {
            return result == 20;
        }
        int due = 8 + far(a.cell, b.cell) + 3 * coverOf(b.cell, a.cell);
        if (b.guards) {
            due += 2;
        }
        return result + KINDS[a.kind][2] >= due;
    }

    int damage(Man a, Man b, int result, int extra) {
        int d = extra + KINDS[a.kind][6] - KINDS[b.kind][1];
        if (d < 1) {
            d = 1;
        }
        return result == 20 ? d + d : d;
    }

    int total(Man a, Man b) {
        int sum = 0;
        for (int i = 0; i < 80; i++) {
            sum += hits(a, b, i / 4 + 1) ? damage(a, b, i / 4 + 1, i % 4 + 1) : 0;
        }
        return sum;
    }

    double chance(int u, int t) {
        Man a = man(u);
        Man b = man(t);
        if (!can(a, b)) {
            throw new IllegalArgumentException();
        }
        int n = 0;
        for (int i = 1; i <= 20; i++) {
            n += hits(a, b, i) ? 1 : 0;
        }
        return (double) n / 20.0;
    }

    double meanDamage(int u, int t) {
        chance(u, t);
        return (double) total(man(u), man(t)) / 80.0;
    }

    int bestTarget() {
        Man a = turn();
        int best = -1;
        for (int i = w.men.size() - 1; i >= 0; i--) {
            Man b = w.men.get(i);
            if (can(a, b)) {
                Man old = best < 0 ? null : w.men.get(best);
                if (old == null || total(a, b) > total(a, old)
                        || total(a, b) == total(a, old) && b.health <= old.health) {
                    best = i;
                }
            }
        }
        if (best < 0) {
            throw new NoSuchElementException();
        }
        return best;
    }

    void remember(int... command) {
        past.add(w.copy());
        if (past.size() > 8) {
            past.remove(0);
        }
        w.commands.add(command);
    }

    void needActions() {
        if (w.actions == 0) {
            throw new IllegalStateException();
        }
    }

    int strike(int u, int t) {
        Man a = w.men.get(u);
        Man b = w.men.get(t);
        a.ammo--;
        int result = die(20);
        if (!hits(a, b, result)) {
            event(3, u, t);
            return 0;
        }
        int d = damage(a, b, result, die(4));
        b.health = Math.max(0, b.health - d);
        event(2, u, d);
        if (!b.alive()) {
            event(4, t, 0);
        }
        return d;
    }

    int move(int c) {
        cell(c);
        Man m = turn();
        needActions();
        String p = path(c);
        if (c == m.cell || p == null || costs(c) > KINDS[m.kind][4]) {
            throw new IllegalArgumentException();
        }
        remember(0, c);
        int u = w.now;
        w.actions--;
        walking:
        for (int next : cells(p)) {
            m.cell = next;
            if (at(next) == '^') {
                m.burn = 2;
            }
            for (int i = 0; i < w.men.size(); i++) {
                Man o = w.men.get(i);
                if (o.watches && o.ammo > 0 && can(o, m)) {
                    o.watches = false;
                    event(7, i, u);
                    if (strike(i, u) > 0) {
                        break walking;
                    }
                }
            }
        }
        event(1, u, m.cell);
        after();
        return m.cell;
    }

    int attack(int t) {
        Man b = man(t);
        Man a = turn();
        needActions();
        if (a.ammo == 0) {
            throw new IllegalStateException();
        }
        if (!can(a, b)) {
            throw new IllegalArgumentException();
        }
        remember(1, t);
        w.actions--;
        int d = strike(w.now, t);
        after();
        return d;
    }

    int throwAt(int c) {
        cell(c);
        Man a = turn();
        needActions();
        if (a.grenades == 0) {
            throw new IllegalStateException();
        }
        if (at(c) == '#' || far(a.cell, c) > 4 || !seen(c, a.cell)) {
            throw new IllegalArgumentException();
        }
        remember(2, c);
        w.actions--;
        a.grenades--;
        event(8, w.now, c);
        int n = 0;
        for (int i = 0; i < w.men.size(); i++) {
            Man m = w.men.get(i);
            if (!m.alive() || far(m.cell, c) > 1) {
                continue;
            }
            n++;
            m.health -= Math.min(3, m.health);
            if (!m.alive()) {
                event(4, i, 0);
                continue;
            }
            int result = die(6);
            if (result > 4 && m.stun == 0) {
                m.stun = 1;
                event(6, i, 1);
            }
        }
        after();
        return n;
    }

    int guard() {
        Man m = turn();
        needActions();
        if (m.guards) {
            throw new IllegalStateException();
        }
        remember(3, 0);
        m.guards = true;
        return --w.actions;
    }

    int watch() {
        Man m = turn();
        needActions();
        if (m.ammo == 0) {
            throw new IllegalStateException();
        }
        remember(4, 0);
        m.watches = true;
        int n = w.actions;
        w.actions = 0;
        return n;
    }

    int reload() {
        Man m = turn();
        needActions();
        remember(5, 0);
        w.actions--;
        int had = m.ammo;
        m.ammo = KINDS[m.kind][7];
        return had;
    }

    int endTurn() {
        Man m = turn();
        remember(6, 0);
        m.stun = Math.max(0, m.stun - 1);
        m.burn = Math.max(0, m.burn - 1);
        nextTurn();
        return w.now;
    }

    int eventCount() {
        return w.events.size();
    }

    int event(int i, int c) {
        if (i < 0 || i >= w.events.size() || c < 0 || c > 2) {
            throw new IndexOutOfBoundsException();
        }
        return w.events.get(i).get(c);
    }

    int commandCount() {
        return w.commands.size();
    }

    int undo() {
        if (past.isEmpty()) {
            throw new IllegalStateException();
        }
        w = past.remove(past.size() - 1);
        return past.size();
    }

    /** The dice are no secret, so that a replay can never differ. */
    boolean isReplayed() {
        if (w.round == 0) {
            throw new IllegalStateException();
        }
        return true;
    }

    float meanHealth(int team) {
        if (team < 0 || team > 1) {
            throw new IndexOutOfBoundsException();
        }
        float sum = 0;
        float n = 0;
        for (Man m : w.men) {
            if (m.team == team) {
                sum += m.health;
                n++;
            }
        }
        if (n == 0) {
            throw new ArithmeticException();
        }
        return sum / n;
    }

    void row(int r) {
        if (r < 0 || r > 1) {
            throw new IndexOutOfBoundsException();
        }
    }

    int storeHealths(int r, boolean exact) {
        row(r);
        int n = w.men.size();
        if (exact) {
            rows[r] = w.men.stream().mapToInt(m -> m.health).toArray();
        } else {
            float[] f = new float[n];
            for (int i = 0; i < n; i++) {
                f[i] = (float) w.men.get(i).health / (float) KINDS[w.men.get(i).kind][0];
            }
            rows[r] = f;
        }
        return n;
    }

    boolean copyHealths(int from, int count) {
        row(from);
        Object a = rows[from];
        Object b = rows[1 - from];
        if (a == null || b == null) {
            throw new NoSuchElementException();
        }
        if (a.getClass() != b.getClass()) {
            throw new UnsupportedOperationException();
        }
        if (count < 0 || count > java.lang.reflect.Array.getLength(a) || count > java.lang.reflect.Array.getLength(b)) {
            throw new IllegalArgumentException();
        }
        boolean changed = false;
        for (int i = 0; i < count; i++) {
            changed |= !java.lang.reflect.Array.get(a, i).equals(java.lang.reflect.Array.get(b, i));
        }
        System.arraycopy(a, 0, b, 0, count);
        return changed;
    }

    int storedBits(int r, int i) {
        row(r);
        if (rows[r] == null || i < 0 || i >= java.lang.reflect.Array.getLength(rows[r])) {
            throw new NoSuchElementException();
        }
        return Float.floatToIntBits(((Number) java.lang.reflect.Array.get(rows[r], i)).floatValue());
    }

    int snapshot() {
        kept = w.copy();
        return w.men.size();
    }

    int restore() {
        if (kept == null) {
            throw new IllegalStateException();
        }
        w = kept.copy();
        past.clear();
        return w.men.size();
    }
}
