import java.util.ArrayList;
import java.util.List;
import java.util.NoSuchElementException;

/**
 * The document once more, written as plainly as can be and apart from the program: objects for the parts, a whole
 * copy for each change, tokens in a list. RandomRunsTest lets it answer beside the program.
 */
final class PlainModel {
    static final class Chamber {
        int volume;
        int outgassing;
        int decay;
        long gas;

        Chamber copy() {
            Chamber c = new Chamber();
            c.volume = volume;
            c.outgassing = outgassing;
            c.decay = decay;
            c.gas = gas;
            return c;
        }

        long pressure() {
            return gas / volume;
        }
    }

    static final class Pump {
        int chamber;
        int exhaust;
        int speed;
        int low;
        int high;
        int backing;
        boolean running;
        int trips;

        Pump copy() {
            Pump p = new Pump();
            p.chamber = chamber;
            p.exhaust = exhaust;
            p.speed = speed;
            p.low = low;
            p.high = high;
            p.backing = backing;
            p.running = running;
            p.trips = trips;
            return p;
        }
    }

    static final class Valve {
        int chamber;
        int other;
        int conductance;
        int rule;
        boolean open;
        int trips;

        Valve copy() {
            Valve v = new Valve();
            v.chamber = chamber;
            v.other = other;
            v.conductance = conductance;
            v.rule = rule;
            v.open = open;
            v.trips = trips;
            return v;
        }
    }

    static final class Flange {
        int chamber;
        int leak;

        Flange copy() {
            Flange f = new Flange();
            f.chamber = chamber;
            f.leak = leak;
            return f;
        }
    }

    record Test(int chamber, int result, int end, int ticks, long first, long second) { }

    static final class World {
        List<Chamber> chambers = new ArrayList<>();
        List<Pump> pumps = new ArrayList<>();
        List<Valve> valves = new ArrayList<>();
        List<Flange> flanges = new ArrayList<>();
        List<Test> tests = new ArrayList<>();
        int time;

        World copy() {
            World w = new World();
            chambers.forEach(c -> w.chambers.add(c.copy()));
            pumps.forEach(p -> w.pumps.add(p.copy()));
            valves.forEach(v -> w.valves.add(v.copy()));
            flanges.forEach(f -> w.flanges.add(f.copy()));
            w.tests.addAll(tests);
            w.time = time;
            return w;
        }

        long pressure(int side) {
            return side == -1 ? 1000000 : chambers.get(side).pressure();
        }

        long difference(Valve v) {
            return Math.abs(pressure(v.chamber) - pressure(v.other));
        }

        boolean pumpConditions(Pump p) {
            return pressure(p.chamber) <= p.high && (p.exhaust == -1 || pressure(p.exhaust) <= p.backing);
        }

        void give(int side, long units) {
            if (side != -1) {
                chambers.get(side).gas += units;
            }
        }

        int tick() {
            int trips = 0;
            for (Valve v : valves) {
                if (v.open && difference(v) > v.rule) {
                    v.open = false;
                    v.trips++;
                    trips++;
                }
            }
            for (int c = 0; c < chambers.size(); c++) {
                Chamber it = chambers.get(c);
                long before = it.pressure();
                if (before < 1000000000L) {
                    it.gas += it.outgassing;
                }
                for (Flange f : flanges) {
                    if (f.chamber == c && before < 1000000) {
                        it.gas += f.leak;
                    }
                }
                if (it.decay > 0) {
                    it.outgassing -= it.outgassing / it.decay;
                }
            }
            for (Valve v : valves) {
                if (!v.open) {
                    continue;
                }
                long d = difference(v);
                long one = chambers.get(v.chamber).volume;
                long limit = v.other == -1 ? d * one
                        : d * one * chambers.get(v.other).volume / (one + chambers.get(v.other).volume);
                long units = Math.min(v.conductance * d, limit);
                boolean forward = pressure(v.chamber) >= pressure(v.other);
                give(v.chamber, forward ? -units : units);
                give(v.other, forward ? units : -units);
            }
            for (Pump p : pumps) {
                if (!p.running) {
                    continue;
                }
                if (!pumpConditions(p)) {
                    p.running = false;
                    p.trips++;
                    trips++;
                } else if (pressure(p.chamber) > p.low) {
                    long units = Math.min(p.speed * (pressure(p.chamber) - p.low), chambers.get(p.chamber).gas);
                    give(p.chamber, -units);
                    give(p.exhaust, units);
                }
            }
            time++;
            return trips;
        }

        int ticks(int number) {
            int trips = 0;
            for (int i = 0; i < number; i++) {
                trips += tick();
            }
            return trips;
        }
    }

    /** A token; kind is w, n, ; or ? for a byte that begins none, and e at the end. */
    record Token(char kind, String text, int at) { }

    static final class Wrong extends RuntimeException {
        private static final long serialVersionUID = 1;
        final int code;
        final int at;

        Wrong(int code, int at) {
            this.code = code;
            this.at = at;
        }
    }

    private World world = new World();
    private final List<World> past = new ArrayList<>();
    private String text = "";
    private String report = "";
    private int errorCode;
    private int errorPosition = -1;
    private List<Token> tokens = new ArrayList<>();
    private int nextToken;

    // ---- texts

    public int appendText(int a, int b, int c, int d, int e) {
        if (text.length() + 20 > 900) {
            throw new IllegalStateException();
        }
        StringBuilder all = new StringBuilder(text);
        for (int word : new int[] {a, b, c, d, e}) {
            for (int i = 0; i < 4; i++) {
                all.append((char) ((word >> (24 - 8 * i)) & 255));
            }
        }
        text = all.toString();
        return text.length();
    }

    public int truncateText(int length) {
        if (length < 0 || length > text.length()) {
            throw new IllegalArgumentException();
        }
        text = text.substring(0, length);
        return length;
    }

    private void takeTokens() {
        tokens = new ArrayList<>();
        nextToken = 0;
        java.util.regex.Matcher m = java.util.regex.Pattern
                .compile("[ \\n]+|([a-z]+)|([0-9]+)|(;)|([\\s\\S])").matcher(text);
        while (m.find()) {
            if (m.group(1) != null) {
                tokens.add(new Token('w', m.group(), m.start()));
            } else if (m.group(2) != null) {
                tokens.add(new Token('n', m.group(), m.start()));
            } else if (m.group(3) != null) {
                tokens.add(new Token(';', m.group(), m.start()));
            } else if (m.group(4) != null) {
                tokens.add(new Token('?', m.group(), m.start()));
            }
        }
        tokens.add(new Token('e', "", text.length()));
        text = "";
    }

    private Token peek() {
        return tokens.get(nextToken);
    }

    private int number(int least, int greatest) {
        Token t = peek();
        if (t.kind != 'n') {
            throw new Wrong(1, t.at);
        }
        if (t.text.length() > 7 || Integer.parseInt(t.text) < least || Integer.parseInt(t.text) > greatest) {
            throw new Wrong(2, t.at);
        }
        nextToken++;
        return Integer.parseInt(t.text);
    }

    private int sideBut(int chamber, int chambers) {
        Token t = peek();
        if (t.text.equals("out")) {
            nextToken++;
            return -1;
        }
        int side = number(0, chambers - 1);
        if (side == chamber) {
            throw new Wrong(3, t.at);
        }
        return side;
    }

    private void semicolon() {
        if (peek().kind != ';') {
            throw new Wrong(1, peek().at);
        }
        nextToken++;
    }

    private World read() {
        World w = new World();
        String[] words = {"chamber", "pump", "valve", "flange"};
        int[] most = {8, 6, 10, 24};
        for (int kind = 0; kind < 4; kind++) {
            int had = 0;
            while (peek().text.equals(words[kind])) {
                if (kind > 0 && w.chambers.isEmpty()) {
                    throw new Wrong(1, peek().at);
                }
                if (had == most[kind]) {
                    throw new Wrong(4, peek().at);
                }
                nextToken++;
                had++;
                readPart(w, kind);
            }
        }
        if (peek().kind != 'e' || w.chambers.isEmpty()) {
            throw new Wrong(1, peek().at);
        }
        return w;
    }

    private void readPart(World w, int kind) {
        int chambers = w.chambers.size();
        if (kind == 0) {
            Chamber c = new Chamber();
            c.volume = number(1, 999);
            c.outgassing = number(0, 9999);
            c.decay = number(0, 999);
            c.gas = c.volume * 1000000L;
            w.chambers.add(c);
        } else if (kind == 1) {
            Pump p = new Pump();
            p.chamber = number(0, chambers - 1);
            p.exhaust = sideBut(p.chamber, chambers);
            p.speed = number(1, 999);
            p.low = number(0, 1000000);
            p.high = number(p.low, 1000000);
            p.backing = p.exhaust == -1 ? -1 : number(0, 1000000);
            w.pumps.add(p);
        } else if (kind == 2) {
            Valve v = new Valve();
            v.chamber = number(0, chambers - 1);
            v.other = sideBut(v.chamber, chambers);
            v.conductance = number(1, 999);
            v.rule = number(0, 1000000);
            w.valves.add(v);
        } else {
            Flange f = new Flange();
            f.chamber = number(0, chambers - 1);
            f.leak = number(0, 9999);
            w.flanges.add(f);
        }
        semicolon();
    }

    public int parseSystem() {
        takeTokens();
        try {
            world = read();
            past.clear();
            errorCode = 0;
            errorPosition = -1;
            return world.chambers.size();
        } catch (Wrong wrong) {
            errorCode = wrong.code;
            errorPosition = wrong.at;
            return -1;
        }
    }

    public int errorCode() {
        return errorCode;
    }

    public int errorPosition() {
        return errorPosition;
    }

    // ---- changes, made on the world in place; change() takes the copy before

    private interface Deed {
        long on(World w);
    }

    private int change(Deed deed) {
        World after = world.copy();
        long answer = deed.on(after);
        past.add(world);
        if (past.size() > 10) {
            past.remove(0);
        }
        world = after;
        return (int) answer;
    }

    private static <T> T get(List<T> list, int index) {
        if (index < 0 || index >= list.size()) {
            throw new IndexOutOfBoundsException();
        }
        return list.get(index);
    }

    private static void demand(boolean holds) {
        if (!holds) {
            throw new IllegalArgumentException();
        }
    }

    private static void demandState(boolean holds) {
        if (!holds) {
            throw new IllegalStateException();
        }
    }

    private static long opened(World w, int valve) {
        Valve v = get(w.valves, valve);
        demandState(!v.open && w.difference(v) <= v.rule);
        v.open = true;
        return w.difference(v);
    }

    private static long closed(World w, int valve) {
        Valve v = get(w.valves, valve);
        demandState(v.open);
        v.open = false;
        return w.difference(v);
    }

    private static long started(World w, int pump) {
        Pump p = get(w.pumps, pump);
        demandState(!p.running && w.pumpConditions(p));
        p.running = true;
        return w.pressure(p.chamber);
    }

    private static long stopped(World w, int pump) {
        Pump p = get(w.pumps, pump);
        demandState(p.running);
        p.running = false;
        return w.pressure(p.chamber);
    }

    private static long passed(World w, int ticks) {
        demand(ticks >= 1 && ticks <= 999);
        return w.ticks(ticks);
    }

    private static long passedUntil(World w, int chamber, int pressure) {
        get(w.chambers, chamber);
        demand(pressure >= 0 && pressure <= 1000000);
        int ticks = 0;
        while (w.pressure(chamber) > pressure) {
            demandState(ticks < 999);
            w.tick();
            ticks++;
        }
        return ticks;
    }

    private static long leakSet(World w, int flange, int leak) {
        Flange f = get(w.flanges, flange);
        demand(leak >= 0 && leak <= 9999);
        int before = f.leak;
        f.leak = leak;
        return before;
    }

    private static boolean isolated(World w, int chamber) {
        return w.valves.stream().noneMatch(v -> v.open && (v.chamber == chamber || v.other == chamber))
                && w.pumps.stream().noneMatch(p -> p.running && (p.chamber == chamber || p.exhaust == chamber));
    }

    private static long tested(World w, int chamber, int ticks) {
        Chamber c = get(w.chambers, chamber);
        demand(ticks >= 2 && ticks <= 998 && ticks % 2 == 0);
        demandState(isolated(w, chamber));
        long before = c.gas;
        w.ticks(ticks / 2);
        long between = c.gas;
        w.ticks(ticks / 2);
        long first = between - before;
        long second = c.gas - between;
        int result = first == 0 && second == 0 ? 0 : second * 10 >= first * 9 ? 2 : 1;
        w.tests.add(0, new Test(chamber, result, w.time, ticks, first, second));
        if (w.tests.size() > 10) {
            w.tests.remove(10);
        }
        return result;
    }

    public int open(int valve) {
        return change(w -> opened(w, valve));
    }

    public int close(int valve) {
        return change(w -> closed(w, valve));
    }

    public int start(int pump) {
        return change(w -> started(w, pump));
    }

    public int stop(int pump) {
        return change(w -> stopped(w, pump));
    }

    public int pass(int ticks) {
        return change(w -> passed(w, ticks));
    }

    public int passUntil(int chamber, int pressure) {
        return change(w -> passedUntil(w, chamber, pressure));
    }

    public int seal(int flange) {
        return change(w -> leakSet(w, flange, 0));
    }

    public int setLeak(int flange, int leak) {
        return change(w -> leakSet(w, flange, leak));
    }

    public int setOutgassing(int chamber, int outgassing) {
        return change(w -> {
            Chamber c = get(w.chambers, chamber);
            demand(outgassing >= 0 && outgassing <= 9999);
            int before = c.outgassing;
            c.outgassing = outgassing;
            return before;
        });
    }

    public int setRule(int valve, int rule) {
        return change(w -> {
            Valve v = get(w.valves, valve);
            demand(rule >= 0 && rule <= 1000000);
            int before = v.rule;
            v.rule = rule;
            return before;
        });
    }

    public int test(int chamber, int ticks) {
        return change(w -> tested(w, chamber, ticks));
    }

    public int runRecipe() {
        takeTokens();
        try {
            return change(this::steps);
        } catch (Wrong wrong) {
            return -1 - wrong.at;
        }
    }

    private long steps(World w) {
        int steps = 0;
        List<String> words = List.of("open", "close", "start", "stop", "wait", "seal", "until", "test");
        while (peek().kind != 'e') {
            Token word = peek();
            int step = words.indexOf(word.text);
            if (step < 0) {
                throw new Wrong(1, word.at);
            }
            nextToken++;
            int a = number(0, 9999999);
            int b = step >= 6 ? number(0, 9999999) : 0;
            semicolon();
            try {
                step(w, step, a, b);
            } catch (IndexOutOfBoundsException | IllegalArgumentException | IllegalStateException e) {
                throw new Wrong(1, word.at);
            }
            steps++;
        }
        return steps;
    }

    private static void step(World w, int step, int a, int b) {
        switch (step) {
            case 0 -> opened(w, a);
            case 1 -> closed(w, a);
            case 2 -> started(w, a);
            case 3 -> stopped(w, a);
            case 4 -> passed(w, a);
            case 5 -> leakSet(w, a, 0);
            case 6 -> passedUntil(w, a, b);
            default -> tested(w, a, b);
        }
    }

    // ---- what there is

    private static int pick(int what, long... values) {
        demand(what >= 0 && what < values.length);
        return (int) values[what];
    }

    public int count(int what) {
        return pick(what, world.chambers.size(), world.pumps.size(), world.valves.size(), world.flanges.size(),
                world.time, world.valves.stream().mapToInt(v -> v.trips).sum(),
                world.pumps.stream().mapToInt(p -> p.trips).sum(), world.tests.size());
    }

    public int chamber(int chamber, int what) {
        Chamber c = get(world.chambers, chamber);
        int leaks = 0;
        for (Flange f : world.flanges) {
            leaks += f.chamber == chamber ? f.leak : 0;
        }
        int valves = 0;
        for (int v = 0; v < world.valves.size(); v++) {
            Valve it = world.valves.get(v);
            valves |= it.chamber == chamber || it.other == chamber ? 1 << v : 0;
        }
        int pumps = 0;
        for (int p = 0; p < world.pumps.size(); p++) {
            pumps |= world.pumps.get(p).chamber == chamber ? 1 << p : 0;
        }
        return pick(what, c.volume, c.outgassing, c.decay, c.pressure(), leaks, valves, pumps);
    }

    public long gas(int chamber) {
        return get(world.chambers, chamber).gas;
    }

    public int pump(int pump, int what) {
        Pump p = get(world.pumps, pump);
        return pick(what, p.chamber, p.exhaust, p.speed, p.low, p.high, p.backing, p.running ? 1 : 0, p.trips);
    }

    public int valve(int valve, int what) {
        Valve v = get(world.valves, valve);
        return pick(what, v.chamber, v.other, v.conductance, v.rule, v.open ? 1 : 0, v.trips, world.difference(v));
    }

    public int flange(int flange, int what) {
        Flange f = get(world.flanges, flange);
        return pick(what, f.chamber, f.leak);
    }

    public int rise(int ago, int what) {
        Test t = get(world.tests, ago);
        return pick(what, t.chamber, t.result, t.end, t.ticks);
    }

    public long riseGas(int ago, boolean second) {
        Test t = get(world.tests, ago);
        return second ? t.second : t.first;
    }

    // ---- valves and chambers together

    public int mayOpen(int valve) {
        Valve v = get(world.valves, valve);
        return v.open ? 1 : world.difference(v) > v.rule ? 2 : 0;
    }

    public int mayStart(int pump) {
        Pump p = get(world.pumps, pump);
        if (p.running) {
            return 1;
        }
        if (world.pressure(p.chamber) > p.high) {
            return 2;
        }
        return p.exhaust != -1 && world.pressure(p.exhaust) > p.backing ? 3 : 0;
    }

    /** The fewest valves from a chamber to each side; the outside is the last; -1 where there is no way. */
    private int[] ways(int chamber, boolean openOnly) {
        int outside = world.chambers.size();
        int[] ways = new int[outside + 1];
        java.util.Arrays.fill(ways, -1);
        ways[chamber] = 0;
        List<Integer> queue = new ArrayList<>(List.of(chamber));
        while (!queue.isEmpty()) {
            int here = queue.remove(0);
            for (Valve v : world.valves) {
                int other = v.other == -1 ? outside : v.other;
                if ((openOnly && !v.open) || (here != v.chamber && here != other)) {
                    continue;
                }
                int there = here == v.chamber ? other : v.chamber;
                if (ways[there] == -1) {
                    ways[there] = ways[here] + 1;
                    if (there != outside) {
                        queue.add(there);
                    }
                }
            }
        }
        return ways;
    }

    public int joined(int chamber) {
        get(world.chambers, chamber);
        int[] ways = ways(chamber, true);
        int set = 0;
        for (int c = 0; c < world.chambers.size(); c++) {
            set |= ways[c] >= 0 ? 1 << c : 0;
        }
        return set;
    }

    public boolean isVented(int chamber) {
        get(world.chambers, chamber);
        return ways(chamber, true)[world.chambers.size()] >= 0;
    }

    public int spread(int chamber) {
        int set = joined(chamber);
        long least = Long.MAX_VALUE;
        long greatest = 0;
        for (int c = 0; c < world.chambers.size(); c++) {
            if ((set & 1 << c) != 0) {
                least = Math.min(least, world.pressure(c));
                greatest = Math.max(greatest, world.pressure(c));
            }
        }
        return (int) (greatest - least);
    }

    public boolean isIsolated(int chamber) {
        get(world.chambers, chamber);
        return isolated(world, chamber);
    }

    public int fewestValves(int chamber, int other) {
        get(world.chambers, chamber);
        demand(other >= -1 && other < world.chambers.size());
        return ways(chamber, false)[other == -1 ? world.chambers.size() : other];
    }

    public int settled(int chamber) {
        int set = joined(chamber);
        long gas = 0;
        long volume = 0;
        for (int c = 0; c < world.chambers.size(); c++) {
            if ((set & 1 << c) != 0) {
                gas += world.chambers.get(c).gas;
                volume += world.chambers.get(c).volume;
            }
        }
        return (int) (gas / volume);
    }

    public int openable() {
        int set = 0;
        for (int v = 0; v < world.valves.size(); v++) {
            set |= mayOpen(v) == 0 ? 1 << v : 0;
        }
        return set;
    }

    public int widest() {
        int best = -1;
        for (int v = 0; v < world.valves.size(); v++) {
            if (!world.valves.get(v).open && (best == -1 || valve(v, 6) > valve(best, 6))) {
                best = v;
            }
        }
        if (best == -1) {
            throw new NoSuchElementException();
        }
        return best;
    }

    // ---- what would be

    private long[] pressures(World from, int chamber, int ticks) {
        get(world.chambers, chamber);
        demand(ticks >= 1 && ticks <= 999);
        World w = from.copy();
        long[] row = new long[ticks + 1];
        row[0] = w.pressure(chamber);
        for (int i = 1; i <= ticks; i++) {
            w.tick();
            row[i] = w.pressure(chamber);
        }
        return row;
    }

    public int pressureAfter(int chamber, int ticks) {
        return (int) pressures(world, chamber, ticks)[ticks];
    }

    public int lowest(int chamber, int ticks) {
        return (int) java.util.Arrays.stream(pressures(world, chamber, ticks)).min().getAsLong();
    }

    public int ticksTo(int chamber, int pressure) {
        try {
            return (int) passedUntil(world.copy(), chamber, pressure);
        } catch (IllegalStateException e) {
            throw new NoSuchElementException();
        }
    }

    public int tripsIn(int ticks) {
        return (int) passed(world.copy(), ticks);
    }

    public double meanPressure(int chamber, int ticks) {
        long[] row = pressures(world, chamber, ticks);
        row[0] = 0;
        return (double) java.util.Arrays.stream(row).sum() / (double) ticks;
    }

    public int bestPump(int chamber, int ticks) {
        pressures(world, chamber, ticks);
        int best = -1;
        long least = 0;
        for (int p = 0; p < world.pumps.size(); p++) {
            if (mayStart(p) == 0) {
                World w = world.copy();
                w.pumps.get(p).running = true;
                long pressure = pressures(w, chamber, ticks)[ticks];
                if (best == -1 || pressure < least) {
                    best = p;
                    least = pressure;
                }
            }
        }
        if (best == -1) {
            throw new NoSuchElementException();
        }
        return best;
    }

    public int bestValve(int chamber, int ticks) {
        pressures(world, chamber, ticks);
        int best = -1;
        long least = 0;
        for (int v = 0; v < world.valves.size(); v++) {
            if (mayOpen(v) == 0) {
                World w = world.copy();
                w.valves.get(v).open = true;
                long pressure = pressures(w, chamber, ticks)[ticks];
                if (best == -1 || pressure < least) {
                    best = v;
                    least = pressure;
                }
            }
        }
        if (best == -1) {
            throw new NoSuchElementException();
        }
        return best;
    }

    // ---- leak hunts

    public int spray(int flanges) {
        int sum = 0;
        for (int f = 0; f < 32; f++) {
            if ((flanges & 1 << f) != 0) {
                demand(f < world.flanges.size());
                sum += world.flanges.get(f).leak;
            }
        }
        return sum;
    }

    /** Returns the sprays; what is found is added to the list. */
    private int hunt(List<Integer> group, int threshold, List<Integer> found) {
        int sum = group.stream().mapToInt(f -> world.flanges.get(f).leak).sum();
        if (sum < threshold) {
            return 1;
        }
        if (group.size() == 1) {
            found.add(group.get(0));
            return 1;
        }
        int half = (group.size() + 1) / 2;
        return 1 + hunt(group.subList(0, half), threshold, found)
                + hunt(group.subList(half, group.size()), threshold, found);
    }

    private int huntIn(int chamber, int threshold, List<Integer> found) {
        get(world.chambers, chamber);
        demand(threshold >= 1 && threshold <= 9999);
        List<Integer> group = new ArrayList<>();
        for (int f = 0; f < world.flanges.size(); f++) {
            if (world.flanges.get(f).chamber == chamber) {
                group.add(f);
            }
        }
        return group.isEmpty() ? 0 : hunt(group, threshold, found);
    }

    public int sprays(int chamber, int threshold) {
        return huntIn(chamber, threshold, new ArrayList<>());
    }

    public int found(int chamber, int threshold) {
        List<Integer> found = new ArrayList<>();
        huntIn(chamber, threshold, found);
        return found.stream().mapToInt(f -> 1 << f).sum();
    }

    public int worstFlange() {
        int worst = -1;
        for (int f = 0; f < world.flanges.size(); f++) {
            if (worst == -1 || world.flanges.get(f).leak > world.flanges.get(worst).leak) {
                worst = f;
            }
        }
        if (worst == -1) {
            throw new NoSuchElementException();
        }
        return worst;
    }

    // ---- report and undo

    public int writeReport() {
        report = "";
        for (int c = 0; c < world.chambers.size(); c++) {
            report += "chamber " + c + " " + world.pressure(c);
            for (int v = 0; v < world.valves.size(); v++) {
                Valve it = world.valves.get(v);
                report += it.open && (it.chamber == c || it.other == c) ? " v" + v : "";
            }
            for (int p = 0; p < world.pumps.size(); p++) {
                report += world.pumps.get(p).running && world.pumps.get(p).chamber == c ? " p" + p : "";
            }
            report += "\n";
        }
        return report.length();
    }

    public int reportByte(int index) {
        if (index < 0 || index >= report.length()) {
            throw new IndexOutOfBoundsException();
        }
        return report.charAt(index);
    }

    public int undo() {
        demandState(!past.isEmpty());
        world = past.remove(past.size() - 1);
        return past.size();
    }

    public int undoDepth() {
        return past.size();
    }
}
