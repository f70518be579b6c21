import java.util.NoSuchElementException;

/**
 * A sequencer for a vacuum system of chambers, pumps, valves and flanges.
 *
 * Every change is made on a copy of the present state, which takes its place only when the change has
 * succeeded: so a call that throws leaves nothing behind, and the state before goes to the undo ring.
 * All rows are made once, in the constructors, since what a run makes is never given back.
 */
public final class VacuumSequencer {
    public static final int NONE = -1;

    private static final int MAX_CHAMBERS = 8;
    private static final int MAX_PUMPS = 6;
    private static final int MAX_VALVES = 10;
    private static final int MAX_FLANGES = 24;
    private static final int MAX_TEXT = 900;
    private static final int MAX_TICKS = 999;
    private static final int MAX_PRESSURE = 1000000;
    private static final int MAX_RATE = 9999;
    private static final int MAX_UNDO = 10;

    /** The outside has a place of its own behind the chambers, so that both sides of a valve are read alike. */
    private static final int OUTSIDE = MAX_CHAMBERS;
    private static final int OUTSIDE_PRESSURE = 1000000;
    private static final int CHAMBER_BITS = (1 << MAX_CHAMBERS) - 1;

    private final Text text = new Text();
    private final Reader reader = new Reader(text);
    private final Layout layout = new Layout();
    private final SystemParser parser = new SystemParser(reader);
    private final Recipe recipe = new Recipe(reader, layout);
    private final Hunt hunt = new Hunt();
    private final Report report = new Report();
    private final State[] past = new State[MAX_UNDO];
    private State present = new State(layout);
    private State trial = new State(layout);
    private int nextPast = 0;
    private int undoable = 0;
    private int latestErrorCode = 0;
    private int latestErrorPosition = NONE;

    public VacuumSequencer() {
        for (int i = 0; i < MAX_UNDO; i++) {
            past[i] = new State(layout);
        }
    }

    // ---- system text

    public int appendText(int a, int b, int c, int d, int e) throws IllegalStateException {
        if (text.length + 20 > MAX_TEXT) {
            throw new IllegalStateException();
        }
        text.addWord(a);
        text.addWord(b);
        text.addWord(c);
        text.addWord(d);
        text.addWord(e);
        return text.length;
    }

    public int truncateText(int length) throws IllegalArgumentException {
        if (length < 0 || length > text.length) {
            throw new IllegalArgumentException();
        }
        text.length = length;
        return length;
    }

    public int parseSystem() {
        boolean correct = parser.parse();
        latestErrorCode = reader.errorCode;
        latestErrorPosition = reader.errorPosition;
        text.length = 0;
        if (!correct) {
            return NONE;
        }
        layout.copyFrom(parser.draft);
        present.reset();
        undoable = 0;
        return layout.chambers;
    }

    public int errorCode() {
        return latestErrorCode;
    }

    public int errorPosition() {
        return latestErrorPosition;
    }

    // ---- changes

    public int open(int valve) throws IndexOutOfBoundsException, IllegalStateException {
        if (!layout.hasValve(valve)) {
            throw new IndexOutOfBoundsException();
        }
        if (present.openingBar(valve) != 0) {
            throw new IllegalStateException();
        }
        beginTrial();
        trial.openValve(valve);
        keepTrial();
        return present.difference(valve);
    }

    public int close(int valve) throws IndexOutOfBoundsException, IllegalStateException {
        if (!layout.hasValve(valve)) {
            throw new IndexOutOfBoundsException();
        }
        if (!present.isOpen(valve)) {
            throw new IllegalStateException();
        }
        beginTrial();
        trial.closeValve(valve);
        keepTrial();
        return present.difference(valve);
    }

    public int start(int pump) throws IndexOutOfBoundsException, IllegalStateException {
        if (!layout.hasPump(pump)) {
            throw new IndexOutOfBoundsException();
        }
        if (present.startingBar(pump) != 0) {
            throw new IllegalStateException();
        }
        beginTrial();
        trial.startPump(pump);
        keepTrial();
        return present.pressure[layout.pumpChamber[pump]];
    }

    public int stop(int pump) throws IndexOutOfBoundsException, IllegalStateException {
        if (!layout.hasPump(pump)) {
            throw new IndexOutOfBoundsException();
        }
        if (!present.isRunning(pump)) {
            throw new IllegalStateException();
        }
        beginTrial();
        trial.stopPump(pump);
        keepTrial();
        return present.pressure[layout.pumpChamber[pump]];
    }

    public int pass(int ticks) throws IllegalArgumentException {
        if (!isTicks(ticks)) {
            throw new IllegalArgumentException();
        }
        beginTrial();
        int trips = trial.passTicks(ticks);
        keepTrial();
        return trips;
    }

    public int passUntil(int chamber, int pressure)
            throws IndexOutOfBoundsException, IllegalArgumentException, IllegalStateException {
        if (!layout.hasChamber(chamber)) {
            throw new IndexOutOfBoundsException();
        }
        if (!isPressure(pressure)) {
            throw new IllegalArgumentException();
        }
        beginTrial();
        int ticks = trial.passUntilAtMost(chamber, pressure);
        if (ticks == NONE) {
            throw new IllegalStateException();
        }
        keepTrial();
        return ticks;
    }

    public int seal(int flange) throws IndexOutOfBoundsException {
        if (!layout.hasFlange(flange)) {
            throw new IndexOutOfBoundsException();
        }
        return changeLeak(flange, 0);
    }

    public int setLeak(int flange, int leak) throws IndexOutOfBoundsException, IllegalArgumentException {
        if (!layout.hasFlange(flange)) {
            throw new IndexOutOfBoundsException();
        }
        if (leak < 0 || leak > MAX_RATE) {
            throw new IllegalArgumentException();
        }
        return changeLeak(flange, leak);
    }

    public int setOutgassing(int chamber, int outgassing) throws IndexOutOfBoundsException, IllegalArgumentException {
        if (!layout.hasChamber(chamber)) {
            throw new IndexOutOfBoundsException();
        }
        if (outgassing < 0 || outgassing > MAX_RATE) {
            throw new IllegalArgumentException();
        }
        int before = present.outgassing[chamber];
        beginTrial();
        trial.outgassing[chamber] = outgassing;
        keepTrial();
        return before;
    }

    public int setRule(int valve, int rule) throws IndexOutOfBoundsException, IllegalArgumentException {
        if (!layout.hasValve(valve)) {
            throw new IndexOutOfBoundsException();
        }
        if (!isPressure(rule)) {
            throw new IllegalArgumentException();
        }
        int before = present.rule[valve];
        beginTrial();
        trial.rule[valve] = rule;
        keepTrial();
        return before;
    }

    public int test(int chamber, int ticks)
            throws IndexOutOfBoundsException, IllegalArgumentException, IllegalStateException {
        if (!layout.hasChamber(chamber)) {
            throw new IndexOutOfBoundsException();
        }
        if (!isTestTicks(ticks)) {
            throw new IllegalArgumentException();
        }
        if (!present.isShutOff(chamber)) {
            throw new IllegalStateException();
        }
        beginTrial();
        int result = trial.makeTest(chamber, ticks);
        keepTrial();
        return result;
    }

    public int runRecipe() {
        beginTrial();
        int answer = recipe.run(trial);
        text.length = 0;
        if (answer >= 0) {
            keepTrial();
        }
        return answer;
    }

    // ---- what there is

    public int count(int what) throws IllegalArgumentException {
        switch (what) {
            case 0: return layout.chambers;
            case 1: return layout.pumps;
            case 2: return layout.valves;
            case 3: return layout.flanges;
            case 4: return present.time;
            case 5: return sum(present.valveTrips, layout.valves);
            case 6: return sum(present.pumpTrips, layout.pumps);
            case 7: return present.tests.kept;
            default: throw new IllegalArgumentException();
        }
    }

    public int chamber(int chamber, int what) throws IndexOutOfBoundsException, IllegalArgumentException {
        if (!layout.hasChamber(chamber)) {
            throw new IndexOutOfBoundsException();
        }
        switch (what) {
            case 0: return layout.volume[chamber];
            case 1: return present.outgassing[chamber];
            case 2: return layout.decay[chamber];
            case 3: return present.pressure[chamber];
            case 4: return present.leakSum[chamber];
            case 5: return layout.valvesOf(chamber);
            case 6: return layout.pumpsOf(chamber);
            default: throw new IllegalArgumentException();
        }
    }

    public long gas(int chamber) throws IndexOutOfBoundsException {
        if (!layout.hasChamber(chamber)) {
            throw new IndexOutOfBoundsException();
        }
        return present.gas[chamber];
    }

    public int pump(int pump, int what) throws IndexOutOfBoundsException, IllegalArgumentException {
        if (!layout.hasPump(pump)) {
            throw new IndexOutOfBoundsException();
        }
        switch (what) {
            case 0: return layout.pumpChamber[pump];
            case 1: return told(layout.exhaust[pump]);
            case 2: return layout.speed[pump];
            case 3: return layout.low[pump];
            case 4: return layout.high[pump];
            case 5: return layout.exhaust[pump] == OUTSIDE ? NONE : layout.backing[pump];
            case 6: return present.isRunning(pump) ? 1 : 0;
            case 7: return present.pumpTrips[pump];
            default: throw new IllegalArgumentException();
        }
    }

    public int valve(int valve, int what) throws IndexOutOfBoundsException, IllegalArgumentException {
        if (!layout.hasValve(valve)) {
            throw new IndexOutOfBoundsException();
        }
        switch (what) {
            case 0: return layout.valveChamber[valve];
            case 1: return told(layout.otherSide[valve]);
            case 2: return layout.conductance[valve];
            case 3: return present.rule[valve];
            case 4: return present.isOpen(valve) ? 1 : 0;
            case 5: return present.valveTrips[valve];
            case 6: return present.difference(valve);
            default: throw new IllegalArgumentException();
        }
    }

    public int flange(int flange, int what) throws IndexOutOfBoundsException, IllegalArgumentException {
        if (!layout.hasFlange(flange)) {
            throw new IndexOutOfBoundsException();
        }
        switch (what) {
            case 0: return layout.flangeChamber[flange];
            case 1: return present.leak[flange];
            default: throw new IllegalArgumentException();
        }
    }

    public int rise(int ago, int what) throws IndexOutOfBoundsException, IllegalArgumentException {
        if (ago < 0 || ago >= present.tests.kept) {
            throw new IndexOutOfBoundsException();
        }
        if (what < 0 || what >= TestLog.FACTS) {
            throw new IllegalArgumentException();
        }
        return present.tests.fact(ago, what);
    }

    public long riseGas(int ago, boolean second) throws IndexOutOfBoundsException {
        if (ago < 0 || ago >= present.tests.kept) {
            throw new IndexOutOfBoundsException();
        }
        return present.tests.riseOf(ago, second);
    }

    // ---- valves and chambers together

    public int mayOpen(int valve) throws IndexOutOfBoundsException {
        if (!layout.hasValve(valve)) {
            throw new IndexOutOfBoundsException();
        }
        return present.openingBar(valve);
    }

    public int mayStart(int pump) throws IndexOutOfBoundsException {
        if (!layout.hasPump(pump)) {
            throw new IndexOutOfBoundsException();
        }
        return present.startingBar(pump);
    }

    public int joined(int chamber) throws IndexOutOfBoundsException {
        if (!layout.hasChamber(chamber)) {
            throw new IndexOutOfBoundsException();
        }
        return present.reach(chamber) & CHAMBER_BITS;
    }

    public boolean isVented(int chamber) throws IndexOutOfBoundsException {
        if (!layout.hasChamber(chamber)) {
            throw new IndexOutOfBoundsException();
        }
        return has(present.reach(chamber), OUTSIDE);
    }

    public int spread(int chamber) throws IndexOutOfBoundsException {
        if (!layout.hasChamber(chamber)) {
            throw new IndexOutOfBoundsException();
        }
        int reached = present.reach(chamber);
        int least = present.pressure[chamber];
        int greatest = least;
        for (int c = 0; c < layout.chambers; c++) {
            if (has(reached, c)) {
                least = Math.min(least, present.pressure[c]);
                greatest = Math.max(greatest, present.pressure[c]);
            }
        }
        return greatest - least;
    }

    public boolean isIsolated(int chamber) throws IndexOutOfBoundsException {
        if (!layout.hasChamber(chamber)) {
            throw new IndexOutOfBoundsException();
        }
        return present.isShutOff(chamber);
    }

    public int fewestValves(int chamber, int other) throws IndexOutOfBoundsException, IllegalArgumentException {
        if (!layout.hasChamber(chamber)) {
            throw new IndexOutOfBoundsException();
        }
        if (other != NONE && !layout.hasChamber(other)) {
            throw new IllegalArgumentException();
        }
        int goal = other == NONE ? OUTSIDE : other;
        int reached = 1 << chamber;
        for (int steps = 0; steps <= MAX_CHAMBERS; steps++) {
            if (has(reached, goal)) {
                return steps;
            }
            reached = layout.grown(reached, layout.allValves());
        }
        return NONE;
    }

    public int settled(int chamber) throws IndexOutOfBoundsException {
        if (!layout.hasChamber(chamber)) {
            throw new IndexOutOfBoundsException();
        }
        int reached = present.reach(chamber);
        long units = 0;
        int volumes = 0;
        for (int c = 0; c < layout.chambers; c++) {
            if (has(reached, c)) {
                units += present.gas[c];
                volumes += layout.volume[c];
            }
        }
        return volumes > 0 ? (int) (units / volumes) : 0;
    }

    public int openable() {
        int set = 0;
        for (int v = 0; v < layout.valves; v++) {
            if (present.openingBar(v) == 0) {
                set |= 1 << v;
            }
        }
        return set;
    }

    public int widest() throws NoSuchElementException {
        int best = NONE;
        int greatest = NONE;
        for (int v = 0; v < layout.valves; v++) {
            if (!present.isOpen(v) && present.difference(v) > greatest) {
                best = v;
                greatest = present.difference(v);
            }
        }
        if (best == NONE) {
            throw new NoSuchElementException();
        }
        return best;
    }

    // ---- what would be, if nothing else were done

    public int pressureAfter(int chamber, int ticks) throws IndexOutOfBoundsException, IllegalArgumentException {
        if (!layout.hasChamber(chamber)) {
            throw new IndexOutOfBoundsException();
        }
        if (!isTicks(ticks)) {
            throw new IllegalArgumentException();
        }
        beginTrial();
        trial.passTicks(ticks);
        return trial.pressure[chamber];
    }

    public int lowest(int chamber, int ticks) throws IndexOutOfBoundsException, IllegalArgumentException {
        if (!layout.hasChamber(chamber)) {
            throw new IndexOutOfBoundsException();
        }
        if (!isTicks(ticks)) {
            throw new IllegalArgumentException();
        }
        beginTrial();
        int least = trial.pressure[chamber];
        for (int t = 0; t < ticks; t++) {
            trial.tick();
            least = Math.min(least, trial.pressure[chamber]);
        }
        return least;
    }

    public int ticksTo(int chamber, int pressure)
            throws IndexOutOfBoundsException, IllegalArgumentException, NoSuchElementException {
        if (!layout.hasChamber(chamber)) {
            throw new IndexOutOfBoundsException();
        }
        if (!isPressure(pressure)) {
            throw new IllegalArgumentException();
        }
        beginTrial();
        int ticks = trial.passUntilAtMost(chamber, pressure);
        if (ticks == NONE) {
            throw new NoSuchElementException();
        }
        return ticks;
    }

    public int tripsIn(int ticks) throws IllegalArgumentException {
        if (!isTicks(ticks)) {
            throw new IllegalArgumentException();
        }
        beginTrial();
        return trial.passTicks(ticks);
    }

    public double meanPressure(int chamber, int ticks) throws IndexOutOfBoundsException, IllegalArgumentException {
        if (!layout.hasChamber(chamber)) {
            throw new IndexOutOfBoundsException();
        }
        if (!isTicks(ticks)) {
            throw new IllegalArgumentException();
        }
        beginTrial();
        long sum = 0;
        for (int t = 0; t < ticks; t++) {
            trial.tick();
            sum += trial.pressure[chamber];
        }
        return (double) sum / (double) ticks;
    }

    public int bestPump(int chamber, int ticks)
            throws IndexOutOfBoundsException, IllegalArgumentException, NoSuchElementException {
        if (!layout.hasChamber(chamber)) {
            throw new IndexOutOfBoundsException();
        }
        if (!isTicks(ticks)) {
            throw new IllegalArgumentException();
        }
        int best = NONE;
        int least = 0;
        for (int p = 0; p < layout.pumps; p++) {
            if (present.startingBar(p) != 0) {
                continue;
            }
            beginTrial();
            trial.startPump(p);
            trial.passTicks(ticks);
            if (best == NONE || trial.pressure[chamber] < least) {
                best = p;
                least = trial.pressure[chamber];
            }
        }
        if (best == NONE) {
            throw new NoSuchElementException();
        }
        return best;
    }

    public int bestValve(int chamber, int ticks)
            throws IndexOutOfBoundsException, IllegalArgumentException, NoSuchElementException {
        if (!layout.hasChamber(chamber)) {
            throw new IndexOutOfBoundsException();
        }
        if (!isTicks(ticks)) {
            throw new IllegalArgumentException();
        }
        int best = NONE;
        int least = 0;
        for (int v = 0; v < layout.valves; v++) {
            if (present.openingBar(v) != 0) {
                continue;
            }
            beginTrial();
            trial.openValve(v);
            trial.passTicks(ticks);
            if (best == NONE || trial.pressure[chamber] < least) {
                best = v;
                least = trial.pressure[chamber];
            }
        }
        if (best == NONE) {
            throw new NoSuchElementException();
        }
        return best;
    }

    // ---- leak hunts

    public int spray(int flanges) throws IllegalArgumentException {
        if ((flanges & ~layout.allFlanges()) != 0) {
            throw new IllegalArgumentException();
        }
        int sum = 0;
        for (int f = 0; f < layout.flanges; f++) {
            if (has(flanges, f)) {
                sum += present.leak[f];
            }
        }
        return sum;
    }

    public int sprays(int chamber, int threshold) throws IndexOutOfBoundsException, IllegalArgumentException {
        if (!layout.hasChamber(chamber)) {
            throw new IndexOutOfBoundsException();
        }
        if (threshold < 1 || threshold > MAX_RATE) {
            throw new IllegalArgumentException();
        }
        hunt.run(present, chamber, threshold);
        return hunt.sprayed;
    }

    public int found(int chamber, int threshold) throws IndexOutOfBoundsException, IllegalArgumentException {
        if (!layout.hasChamber(chamber)) {
            throw new IndexOutOfBoundsException();
        }
        if (threshold < 1 || threshold > MAX_RATE) {
            throw new IllegalArgumentException();
        }
        hunt.run(present, chamber, threshold);
        return hunt.foundSet;
    }

    public int worstFlange() throws NoSuchElementException {
        if (layout.flanges == 0) {
            throw new NoSuchElementException();
        }
        int worst = 0;
        for (int f = 1; f < layout.flanges; f++) {
            if (present.leak[f] > present.leak[worst]) {
                worst = f;
            }
        }
        return worst;
    }

    // ---- report

    public int writeReport() {
        report.length = 0;
        for (int c = 0; c < layout.chambers; c++) {
            report.addText("chamber ");
            report.addNumber(c);
            report.addText(" ");
            report.addNumber(present.pressure[c]);
            report.addSet(" v", layout.valvesOf(c) & present.openValves, MAX_VALVES);
            report.addSet(" p", layout.pumpsOf(c) & present.runningPumps, MAX_PUMPS);
            report.addText("\n");
        }
        return report.length;
    }

    public int reportByte(int index) throws IndexOutOfBoundsException {
        if (index < 0 || index >= report.length) {
            throw new IndexOutOfBoundsException();
        }
        return report.bytes[index];
    }

    // ---- undo

    public int undo() throws IllegalStateException {
        if (undoable == 0) {
            throw new IllegalStateException();
        }
        nextPast = (nextPast + MAX_UNDO - 1) % MAX_UNDO;
        State undone = present;
        present = past[nextPast];
        past[nextPast] = undone;
        undoable--;
        return undoable;
    }

    public int undoDepth() {
        return undoable;
    }

    // ---- what the methods above share

    private void beginTrial() {
        trial.copyFrom(present);
    }

    /** The ring's oldest state is the one that can be spared as the next trial. */
    private void keepTrial() {
        State spared = past[nextPast];
        past[nextPast] = present;
        present = trial;
        trial = spared;
        nextPast = (nextPast + 1) % MAX_UNDO;
        undoable = Math.min(undoable + 1, MAX_UNDO);
    }

    private int changeLeak(int flange, int leak) {
        int before = present.leak[flange];
        beginTrial();
        trial.putLeak(flange, leak);
        keepTrial();
        return before;
    }

    private static boolean isTicks(int ticks) {
        return ticks >= 1 && ticks <= MAX_TICKS;
    }

    private static boolean isTestTicks(int ticks) {
        return isTicks(ticks) && ticks % 2 == 0;
    }

    private static boolean isPressure(int pressure) {
        return pressure >= 0 && pressure <= MAX_PRESSURE;
    }

    private static boolean has(int set, int part) {
        return (set >> part & 1) != 0;
    }

    private static int told(int side) {
        return side == OUTSIDE ? NONE : side;
    }

    private static int sum(int[] values, int number) {
        int sum = 0;
        for (int i = 0; i < number && i < values.length; i++) {
            sum += values[i];
        }
        return sum;
    }

    /** The parts as the system text tells them; nothing here changes before the next system text. */
    private static final class Layout {
        int chambers = 0;
        int pumps = 0;
        int valves = 0;
        int flanges = 0;
        final int[] volume = new int[MAX_CHAMBERS];
        final int[] firstOutgassing = new int[MAX_CHAMBERS];
        final int[] decay = new int[MAX_CHAMBERS];
        final int[] pumpChamber = new int[MAX_PUMPS];
        final int[] exhaust = new int[MAX_PUMPS];
        final int[] speed = new int[MAX_PUMPS];
        final int[] low = new int[MAX_PUMPS];
        final int[] high = new int[MAX_PUMPS];
        final int[] backing = new int[MAX_PUMPS];
        final int[] valveChamber = new int[MAX_VALVES];
        final int[] otherSide = new int[MAX_VALVES];
        final int[] conductance = new int[MAX_VALVES];
        final int[] firstRule = new int[MAX_VALVES];
        final int[] flangeChamber = new int[MAX_FLANGES];
        final int[] firstLeak = new int[MAX_FLANGES];

        void clear() {
            chambers = 0;
            pumps = 0;
            valves = 0;
            flanges = 0;
        }

        void copyFrom(Layout other) {
            chambers = other.chambers;
            pumps = other.pumps;
            valves = other.valves;
            flanges = other.flanges;
            System.arraycopy(other.volume, 0, volume, 0, MAX_CHAMBERS);
            System.arraycopy(other.firstOutgassing, 0, firstOutgassing, 0, MAX_CHAMBERS);
            System.arraycopy(other.decay, 0, decay, 0, MAX_CHAMBERS);
            System.arraycopy(other.pumpChamber, 0, pumpChamber, 0, MAX_PUMPS);
            System.arraycopy(other.exhaust, 0, exhaust, 0, MAX_PUMPS);
            System.arraycopy(other.speed, 0, speed, 0, MAX_PUMPS);
            System.arraycopy(other.low, 0, low, 0, MAX_PUMPS);
            System.arraycopy(other.high, 0, high, 0, MAX_PUMPS);
            System.arraycopy(other.backing, 0, backing, 0, MAX_PUMPS);
            System.arraycopy(other.valveChamber, 0, valveChamber, 0, MAX_VALVES);
            System.arraycopy(other.otherSide, 0, otherSide, 0, MAX_VALVES);
            System.arraycopy(other.conductance, 0, conductance, 0, MAX_VALVES);
            System.arraycopy(other.firstRule, 0, firstRule, 0, MAX_VALVES);
            System.arraycopy(other.flangeChamber, 0, flangeChamber, 0, MAX_FLANGES);
            System.arraycopy(other.firstLeak, 0, firstLeak, 0, MAX_FLANGES);
        }

        boolean hasChamber(int chamber) {
            return chamber >= 0 && chamber < chambers;
        }

        boolean hasPump(int pump) {
            return pump >= 0 && pump < pumps;
        }

        boolean hasValve(int valve) {
            return valve >= 0 && valve < valves;
        }

        boolean hasFlange(int flange) {
            return flange >= 0 && flange < flanges;
        }

        int allValves() {
            return (1 << valves) - 1;
        }

        int allFlanges() {
            return (1 << flanges) - 1;
        }

        int valvesOf(int chamber) {
            int set = 0;
            for (int v = 0; v < valves; v++) {
                if (valveChamber[v] == chamber || otherSide[v] == chamber) {
                    set |= 1 << v;
                }
            }
            return set;
        }

        int pumpsOf(int chamber) {
            int set = 0;
            for (int p = 0; p < pumps; p++) {
                if (pumpChamber[p] == chamber) {
                    set |= 1 << p;
                }
            }
            return set;
        }

        /** The sides with all that one of the valves joins to a chamber of them; no way leads on from the outside. */
        int grown(int sides, int valveSet) {
            int grown = sides;
            for (int v = 0; v < valves; v++) {
                if (!has(valveSet, v)) {
                    continue;
                }
                if (has(sides, valveChamber[v])) {
                    grown |= 1 << otherSide[v];
                }
                if (otherSide[v] != OUTSIDE && has(sides, otherSide[v])) {
                    grown |= 1 << valveChamber[v];
                }
            }
            return grown;
        }

        void addChamber(int itsVolume, int itsOutgassing, int itsDecay) {
            if (chambers >= MAX_CHAMBERS) {
                return;
            }
            volume[chambers] = itsVolume;
            firstOutgassing[chambers] = itsOutgassing;
            decay[chambers] = itsDecay;
            chambers++;
        }

        void addPump(int chamber, int itsExhaust, int itsSpeed, int itsLow, int itsHigh, int itsBacking) {
            if (pumps >= MAX_PUMPS) {
                return;
            }
            pumpChamber[pumps] = chamber;
            exhaust[pumps] = itsExhaust;
            speed[pumps] = itsSpeed;
            low[pumps] = itsLow;
            high[pumps] = itsHigh;
            backing[pumps] = itsBacking;
            pumps++;
        }

        void addValve(int chamber, int other, int itsConductance, int itsRule) {
            if (valves >= MAX_VALVES) {
                return;
            }
            valveChamber[valves] = chamber;
            otherSide[valves] = other;
            conductance[valves] = itsConductance;
            firstRule[valves] = itsRule;
            valves++;
        }

        void addFlange(int chamber, int itsLeak) {
            if (flanges >= MAX_FLANGES) {
                return;
            }
            flangeChamber[flanges] = chamber;
            firstLeak[flanges] = itsLeak;
            flanges++;
        }
    }

    /** All that undo() brings back. The pressures and the sums of the leaks are kept, as each tick reads them often. */
    private static final class State {
        final Layout parts;
        int time = 0;
        int openValves = 0;
        int runningPumps = 0;
        final long[] gas = new long[MAX_CHAMBERS];
        final int[] pressure = new int[MAX_CHAMBERS + 1];
        final int[] outgassing = new int[MAX_CHAMBERS];
        final int[] leakSum = new int[MAX_CHAMBERS];
        final int[] rule = new int[MAX_VALVES];
        final int[] valveTrips = new int[MAX_VALVES];
        final int[] pumpTrips = new int[MAX_PUMPS];
        final int[] leak = new int[MAX_FLANGES];
        final TestLog tests = new TestLog();

        State(Layout layout) {
            parts = layout;
            pressure[OUTSIDE] = OUTSIDE_PRESSURE;
        }

        /** The state in which a new system begins. */
        void reset() {
            time = 0;
            openValves = 0;
            runningPumps = 0;
            tests.kept = 0;
            for (int c = 0; c < parts.chambers; c++) {
                gas[c] = 0;
                addGas(c, (long) parts.volume[c] * OUTSIDE_PRESSURE);
                outgassing[c] = parts.firstOutgassing[c];
                leakSum[c] = 0;
            }
            for (int p = 0; p < parts.pumps; p++) {
                pumpTrips[p] = 0;
            }
            for (int v = 0; v < parts.valves; v++) {
                rule[v] = parts.firstRule[v];
                valveTrips[v] = 0;
            }
            for (int f = 0; f < parts.flanges; f++) {
                leak[f] = 0;
                putLeak(f, parts.firstLeak[f]);
            }
        }

        void copyFrom(State other) {
            time = other.time;
            openValves = other.openValves;
            runningPumps = other.runningPumps;
            System.arraycopy(other.gas, 0, gas, 0, MAX_CHAMBERS);
            System.arraycopy(other.pressure, 0, pressure, 0, MAX_CHAMBERS);
            System.arraycopy(other.outgassing, 0, outgassing, 0, MAX_CHAMBERS);
            System.arraycopy(other.leakSum, 0, leakSum, 0, MAX_CHAMBERS);
            System.arraycopy(other.rule, 0, rule, 0, MAX_VALVES);
            System.arraycopy(other.valveTrips, 0, valveTrips, 0, MAX_VALVES);
            System.arraycopy(other.pumpTrips, 0, pumpTrips, 0, MAX_PUMPS);
            System.arraycopy(other.leak, 0, leak, 0, MAX_FLANGES);
            tests.copyFrom(other.tests);
        }

        boolean isOpen(int valve) {
            return (openValves >> valve & 1) != 0;
        }

        boolean isRunning(int pump) {
            return (runningPumps >> pump & 1) != 0;
        }

        void openValve(int valve) {
            openValves |= 1 << valve;
        }

        void closeValve(int valve) {
            openValves &= ~(1 << valve);
        }

        void startPump(int pump) {
            runningPumps |= 1 << pump;
        }

        void stopPump(int pump) {
            runningPumps &= ~(1 << pump);
        }

        void putLeak(int flange, int units) {
            leakSum[parts.flangeChamber[flange]] += units - leak[flange];
            leak[flange] = units;
        }

        int difference(int valve) {
            return Math.abs(pressure[parts.valveChamber[valve]] - pressure[parts.otherSide[valve]]);
        }

        /** What keeps a valve from being opened, as mayOpen() tells it. */
        int openingBar(int valve) {
            if (isOpen(valve)) {
                return 1;
            }
            return difference(valve) > rule[valve] ? 2 : 0;
        }

        /** What keeps a pump from being started, as mayStart() tells it. */
        int startingBar(int pump) {
            return isRunning(pump) ? 1 : conditionBar(pump);
        }

        /** The condition of a pump that is not met, or 0. */
        private int conditionBar(int pump) {
            if (pressure[parts.pumpChamber[pump]] > parts.high[pump]) {
                return 2;
            }
            int exhaust = parts.exhaust[pump];
            return exhaust != OUTSIDE && pressure[exhaust] > parts.backing[pump] ? 3 : 0;
        }

        boolean isShutOff(int chamber) {
            if ((parts.valvesOf(chamber) & openValves) != 0) {
                return false;
            }
            for (int p = 0; p < parts.pumps; p++) {
                boolean touches = parts.pumpChamber[p] == chamber || parts.exhaust[p] == chamber;
                if (touches && isRunning(p)) {
                    return false;
                }
            }
            return true;
        }

        /** The chambers, and perhaps the outside, that can be reached through open valves. */
        int reach(int chamber) {
            int reached = 1 << chamber;
            for (int steps = 0; steps < MAX_CHAMBERS; steps++) {
                reached = parts.grown(reached, openValves);
            }
            return reached;
        }

        int passTicks(int ticks) {
            int trips = 0;
            for (int t = 0; t < ticks; t++) {
                trips += tick();
            }
            return trips;
        }

        /** Returns the ticks that passed; NONE if there are not enough, and then this state is of no more use. */
        int passUntilAtMost(int chamber, int target) {
            for (int ticks = 0; ticks <= MAX_TICKS; ticks++) {
                if (pressure[chamber] <= target) {
                    return ticks;
                }
                tick();
            }
            return NONE;
        }

        /** An isolated chamber loses no gas, so that what it holds more is what it got. */
        int makeTest(int chamber, int ticks) {
            int half = ticks / 2;
            long before = gas[chamber];
            for (int t = 0; t < half; t++) {
                tick();
            }
            long between = gas[chamber];
            for (int t = 0; t < half; t++) {
                tick();
            }
            long first = between - before;
            long second = gas[chamber] - between;
            int result = 1;
            if (first == 0 && second == 0) {
                result = 0;
            } else if (second * 10 >= first * 9) {
                result = 2;
            }
            tests.add(chamber, result, time, ticks, first, second);
            return result;
        }

        /** Returns the number of trips. */
        int tick() {
            int trips = tripValves();
            letGasIn();
            moveThroughValves();
            trips += runPumps();
            time++;
            return trips;
        }

        private int tripValves() {
            int trips = 0;
            for (int v = 0; v < parts.valves; v++) {
                if (isOpen(v) && difference(v) > rule[v]) {
                    closeValve(v);
                    valveTrips[v]++;
                    trips++;
                }
            }
            return trips;
        }

        private void letGasIn() {
            for (int c = 0; c < parts.chambers; c++) {
                int units = 0;
                if (pressure[c] < 1000000000) {
                    units += outgassing[c];
                }
                if (pressure[c] < OUTSIDE_PRESSURE) {
                    units += leakSum[c];
                }
                addGas(c, units);
                int decay = parts.decay[c];
                if (decay > 0) {
                    outgassing[c] -= outgassing[c] / decay;
                }
            }
        }

        private void moveThroughValves() {
            for (int v = 0; v < parts.valves; v++) {
                if (!isOpen(v)) {
                    continue;
                }
                int from = parts.valveChamber[v];
                int to = parts.otherSide[v];
                if (pressure[from] < pressure[to]) {
                    from = parts.otherSide[v];
                    to = parts.valveChamber[v];
                }
                long units = flow(v, (long) pressure[from] - pressure[to]);
                addGas(from, -units);
                addGas(to, units);
            }
        }

        private long flow(int valve, long difference) {
            long volume = parts.volume[parts.valveChamber[valve]];
            int other = parts.otherSide[valve];
            long most = difference * volume;
            if (other != OUTSIDE) {
                long otherVolume = parts.volume[other];
                long both = volume + otherVolume;
                most = both > 0 ? difference * volume * otherVolume / both : 0;
            }
            return Math.min(parts.conductance[valve] * difference, most);
        }

        private int runPumps() {
            int trips = 0;
            for (int p = 0; p < parts.pumps; p++) {
                if (!isRunning(p)) {
                    continue;
                }
                int chamber = parts.pumpChamber[p];
                if (conditionBar(p) != 0) {
                    stopPump(p);
                    pumpTrips[p]++;
                    trips++;
                } else if (pressure[chamber] > parts.low[p]) {
                    long units = (long) parts.speed[p] * (pressure[chamber] - parts.low[p]);
                    units = Math.min(units, gas[chamber]);
                    addGas(chamber, -units);
                    addGas(parts.exhaust[p], units);
                }
            }
            return trips;
        }

        private void addGas(int side, long units) {
            if (side == OUTSIDE) {
                return;
            }
            gas[side] += units;
            int volume = parts.volume[side];
            // Stays far below an int's end: outgassing stops at 1000000000, and backing keeps exhausts low.
            pressure[side] = volume > 0 ? (int) (gas[side] / volume) : 0;
        }
    }

    /** The latest rate of rise tests, in a ring. */
    private static final class TestLog {
        static final int SIZE = 10;
        static final int FACTS = 4;

        int kept = 0;
        int next = 0;
        final int[] facts = new int[SIZE * FACTS];
        final long[] rises = new long[SIZE * 2];

        void copyFrom(TestLog other) {
            kept = other.kept;
            next = other.next;
            System.arraycopy(other.facts, 0, facts, 0, SIZE * FACTS);
            System.arraycopy(other.rises, 0, rises, 0, SIZE * 2);
        }

        void add(int chamber, int result, int end, int ticks, long first, long second) {
            facts[next * FACTS] = chamber;
            facts[next * FACTS + 1] = result;
            facts[next * FACTS + 2] = end;
            facts[next * FACTS + 3] = ticks;
            rises[next * 2] = first;
            rises[next * 2 + 1] = second;
            next = (next + 1) % SIZE;
            kept = Math.min(kept + 1, SIZE);
        }

        int fact(int ago, int what) {
            return facts[slot(ago) * FACTS + what];
        }

        long riseOf(int ago, boolean second) {
            return rises[slot(ago) * 2 + (second ? 1 : 0)];
        }

        private int slot(int ago) {
            return (next + SIZE - 1 - ago) % SIZE;
        }
    }

    /** The text buffer. */
    private static final class Text {
        final byte[] bytes = new byte[MAX_TEXT];
        int length = 0;

        void addWord(int word) {
            for (int shift = 24; shift >= 0 && length < MAX_TEXT; shift -= 8) {
                bytes[length] = (byte) (word >>> shift);
                length++;
            }
        }

        /** The byte at an index, 0 to 255; NONE outside the text. */
        int byteAt(int index) {
            return index >= 0 && index < length ? bytes[index] & 255 : NONE;
        }
    }

    /** Reads the text buffer token by token; after the first error, which is the one that counts, it reads no more. */
    private static final class Reader {
        static final int END = 0;
        static final int WORD = 1;
        static final int NUMBER = 2;
        static final int SEMICOLON = 3;
        static final int NO_TOKEN = 4;
        static final int MAX_DIGITS = 7;

        final Text text;
        int kind = END;
        int start = 0;
        int end = 0;
        int value = 0;
        int errorCode = 0;
        int errorPosition = NONE;

        Reader(Text itsText) {
            text = itsText;
        }

        void begin() {
            end = 0;
            errorCode = 0;
            errorPosition = NONE;
            advance();
        }

        void advance() {
            start = end;
            while (start < text.length && (text.byteAt(start) == ' ' || text.byteAt(start) == '\n')) {
                start++;
            }
            kind = kindOf(text.byteAt(start));
            end = Math.min(start + 1, text.length);
            if (kind == WORD || kind == NUMBER) {
                while (end < text.length && kindOf(text.byteAt(end)) == kind) {
                    end++;
                }
            }
            value = 0;
            for (int i = start; kind == NUMBER && i < end && i < start + MAX_DIGITS; i++) {
                value = value * 10 + text.byteAt(i) - '0';
            }
        }

        private static int kindOf(int sign) {
            if (sign == NONE) {
                return END;
            }
            if (sign >= 'a' && sign <= 'z') {
                return WORD;
            }
            if (sign >= '0' && sign <= '9') {
                return NUMBER;
            }
            return sign == ';' ? SEMICOLON : NO_TOKEN;
        }

        void fail(int code, int position) {
            if (errorCode == 0) {
                errorCode = code;
                errorPosition = position;
            }
        }

        boolean isWord(String word) {
            if (kind != WORD || end - start != word.length()) {
                return false;
            }
            for (int i = 0; i < word.length(); i++) {
                if (text.byteAt(start + i) != word.charAt(i)) {
                    return false;
                }
            }
            return true;
        }

        int readNumber(int least, int greatest) {
            if (errorCode != 0) {
                return 0;
            }
            if (kind != NUMBER) {
                fail(1, start);
                return 0;
            }
            if (end - start > MAX_DIGITS || value < least || value > greatest) {
                fail(2, start);
                return 0;
            }
            int number = value;
            advance();
            return number;
        }

        void readSemicolon() {
            if (errorCode != 0) {
                return;
            }
            if (kind != SEMICOLON) {
                fail(1, start);
                return;
            }
            advance();
        }
    }

    /** Reads a system text into a draft, so that a wrong one leaves the present system alone. */
    private static final class SystemParser {
        final Reader reader;
        final Layout draft = new Layout();

        SystemParser(Reader itsReader) {
            reader = itsReader;
        }

        boolean parse() {
            draft.clear();
            reader.begin();
            int reached = 0;
            for (int i = 0; i < MAX_TEXT && reader.kind != Reader.END && reader.errorCode == 0; i++) {
                int section = section();
                if (section < reached || (section > 0 && draft.chambers == 0)) {
                    reader.fail(1, reader.start);
                } else if (isFull(section)) {
                    reader.fail(4, reader.start);
                } else {
                    reached = section;
                    reader.advance();
                    switch (section) {
                        case 0:
                            readChamber();
                            break;
                        case 1:
                            readPump();
                            break;
                        case 2:
                            readValve();
                            break;
                        default:
                            readFlange();
                    }
                }
            }
            if (draft.chambers == 0) {
                reader.fail(1, reader.start);
            }
            return reader.errorCode == 0;
        }

        /** The place of the keyword's statements in the text; NONE if the token is no keyword. */
        private int section() {
            if (reader.isWord("chamber")) {
                return 0;
            }
            if (reader.isWord("pump")) {
                return 1;
            }
            if (reader.isWord("valve")) {
                return 2;
            }
            return reader.isWord("flange") ? 3 : NONE;
        }

        private boolean isFull(int section) {
            switch (section) {
                case 0: return draft.chambers == MAX_CHAMBERS;
                case 1: return draft.pumps == MAX_PUMPS;
                case 2: return draft.valves == MAX_VALVES;
                default: return draft.flanges == MAX_FLANGES;
            }
        }

        private void readChamber() {
            int volume = reader.readNumber(1, 999);
            int outgassing = reader.readNumber(0, MAX_RATE);
            int decay = reader.readNumber(0, 999);
            reader.readSemicolon();
            if (reader.errorCode == 0) {
                draft.addChamber(volume, outgassing, decay);
            }
        }

        private void readPump() {
            int chamber = reader.readNumber(0, draft.chambers - 1);
            int exhaust = readOtherSide(chamber);
            int speed = reader.readNumber(1, 999);
            int low = reader.readNumber(0, MAX_PRESSURE);
            int high = reader.readNumber(low, MAX_PRESSURE);
            int backing = exhaust == OUTSIDE ? MAX_PRESSURE : reader.readNumber(0, MAX_PRESSURE);
            reader.readSemicolon();
            if (reader.errorCode == 0) {
                draft.addPump(chamber, exhaust, speed, low, high, backing);
            }
        }

        private void readValve() {
            int chamber = reader.readNumber(0, draft.chambers - 1);
            int other = readOtherSide(chamber);
            int conductance = reader.readNumber(1, 999);
            int rule = reader.readNumber(0, MAX_PRESSURE);
            reader.readSemicolon();
            if (reader.errorCode == 0) {
                draft.addValve(chamber, other, conductance, rule);
            }
        }

        private void readFlange() {
            int chamber = reader.readNumber(0, draft.chambers - 1);
            int leak = reader.readNumber(0, MAX_RATE);
            reader.readSemicolon();
            if (reader.errorCode == 0) {
                draft.addFlange(chamber, leak);
            }
        }

        private int readOtherSide(int chamber) {
            if (reader.errorCode == 0 && reader.isWord("out")) {
                reader.advance();
                return OUTSIDE;
            }
            int position = reader.start;
            int other = reader.readNumber(0, draft.chambers - 1);
            if (reader.errorCode == 0 && other == chamber) {
                reader.fail(3, position);
            }
            return other;
        }
    }

    /** Reads a recipe text and executes its steps on a state; a wrong text leaves that state of no more use. */
    private static final class Recipe {
        static final int OPEN = 0;
        static final int CLOSE = 1;
        static final int START = 2;
        static final int STOP = 3;
        static final int WAIT = 4;
        static final int UNTIL = 5;
        static final int SEAL = 6;
        static final int TEST = 7;
        static final int GREATEST_NUMBER = 9999999;

        final Reader reader;
        final Layout parts;
        int first = 0;
        int second = 0;

        Recipe(Reader itsReader, Layout layout) {
            reader = itsReader;
            parts = layout;
        }

        /** Returns the number of steps; -1 - p if the text is wrong at position p. */
        int run(State state) {
            int steps = 0;
            reader.begin();
            for (int i = 0; i < MAX_TEXT && reader.kind != Reader.END; i++) {
                int position = reader.start;
                int step = readStep();
                if (reader.errorCode == 0 && !execute(state, step)) {
                    reader.fail(1, position);
                }
                if (reader.errorCode != 0) {
                    return -1 - reader.errorPosition;
                }
                steps++;
            }
            return steps;
        }

        /** Returns the step's word; its numbers are in first and second. */
        private int readStep() {
            int step = step();
            if (step == NONE) {
                reader.fail(1, reader.start);
                return NONE;
            }
            reader.advance();
            first = reader.readNumber(0, GREATEST_NUMBER);
            second = step == UNTIL || step == TEST ? reader.readNumber(0, GREATEST_NUMBER) : 0;
            reader.readSemicolon();
            return step;
        }

        private int step() {
            if (reader.isWord("open")) {
                return OPEN;
            }
            if (reader.isWord("close")) {
                return CLOSE;
            }
            if (reader.isWord("start")) {
                return START;
            }
            if (reader.isWord("stop")) {
                return STOP;
            }
            if (reader.isWord("wait")) {
                return WAIT;
            }
            if (reader.isWord("until")) {
                return UNTIL;
            }
            if (reader.isWord("seal")) {
                return SEAL;
            }
            return reader.isWord("test") ? TEST : NONE;
        }

        /** Returns false if the corresponding method would throw an exception. */
        private boolean execute(State state, int step) {
            switch (step) {
                case OPEN:
                case CLOSE:
                    return parts.hasValve(first) && turnValve(state, step == OPEN, first);
                case START:
                case STOP:
                    return parts.hasPump(first) && switchPump(state, step == START, first);
                case WAIT:
                    if (!isTicks(first)) {
                        return false;
                    }
                    state.passTicks(first);
                    return true;
                case UNTIL:
                    return parts.hasChamber(first) && isPressure(second)
                            && state.passUntilAtMost(first, second) != NONE;
                case SEAL:
                    if (!parts.hasFlange(first)) {
                        return false;
                    }
                    state.putLeak(first, 0);
                    return true;
                default:
                    if (!parts.hasChamber(first) || !isTestTicks(second) || !state.isShutOff(first)) {
                        return false;
                    }
                    state.makeTest(first, second);
                    return true;
            }
        }

        private static boolean turnValve(State state, boolean opens, int valve) {
            if (opens ? state.openingBar(valve) != 0 : !state.isOpen(valve)) {
                return false;
            }
            if (opens) {
                state.openValve(valve);
            } else {
                state.closeValve(valve);
            }
            return true;
        }

        private static boolean switchPump(State state, boolean starts, int pump) {
            if (starts ? state.startingBar(pump) != 0 : !state.isRunning(pump)) {
                return false;
            }
            if (starts) {
                state.startPump(pump);
            } else {
                state.stopPump(pump);
            }
            return true;
        }
    }

    /** A leak hunt by halves. The groups wait in a row, as the order of the sprays shows in no answer. */
    private static final class Hunt {
        static final int MAX_GROUPS = 2 * MAX_FLANGES - 1;

        final int[] numbers = new int[MAX_FLANGES];
        final int[] froms = new int[MAX_GROUPS];
        final int[] sizes = new int[MAX_GROUPS];
        int groups = 0;
        int sprayed = 0;
        int foundSet = 0;

        void run(State state, int chamber, int threshold) {
            groups = 0;
            sprayed = 0;
            foundSet = 0;
            addGroup(0, collect(state.parts, chamber));
            for (int g = 0; g < groups && g < MAX_GROUPS; g++) {
                sprayed++;
                if (sumOf(state.leak, g) < threshold) {
                    continue;
                }
                if (sizes[g] == 1) {
                    foundSet |= 1 << numbers[froms[g]];
                } else {
                    int secondHalf = sizes[g] / 2;
                    int firstHalf = sizes[g] - secondHalf;
                    addGroup(froms[g], firstHalf);
                    addGroup(froms[g] + firstHalf, secondHalf);
                }
            }
        }

        private int collect(Layout parts, int chamber) {
            int size = 0;
            for (int f = 0; f < parts.flanges; f++) {
                if (parts.flangeChamber[f] == chamber) {
                    numbers[size] = f;
                    size++;
                }
            }
            return size;
        }

        private void addGroup(int from, int size) {
            if (size > 0 && groups < MAX_GROUPS) {
                froms[groups] = from;
                sizes[groups] = size;
                groups++;
            }
        }

        private int sumOf(int[] leak, int group) {
            int sum = 0;
            for (int i = froms[group]; i < froms[group] + sizes[group]; i++) {
                sum += leak[numbers[i]];
            }
            return sum;
        }
    }

    /** The report that was written last: 8 lines of at most 21 bytes, 20 ends of valves and 6 pumps of 3 bytes each. */
    private static final class Report {
        static final int MAX_LENGTH = 8 * 21 + 20 * 3 + 6 * 3;

        final byte[] bytes = new byte[MAX_LENGTH];
        int length = 0;

        void addText(String part) {
            for (int i = 0; i < part.length(); i++) {
                addByte(part.charAt(i));
            }
        }

        void addNumber(int number) {
            int place = 1;
            while (place < 1000000000 && number / place >= 10) {
                place *= 10;
            }
            for (; place > 0; place /= 10) {
                addByte('0' + number / place % 10);
            }
        }

        void addSet(String mark, int set, int parts) {
            for (int part = 0; part < parts; part++) {
                if (has(set, part)) {
                    addText(mark);
                    addNumber(part);
                }
            }
        }

        private void addByte(int value) {
            if (length < MAX_LENGTH) {
                bytes[length] = (byte) value;
                length++;
            }
        }
    }
}
