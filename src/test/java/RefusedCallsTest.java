/**
 * "The exceptions of a call are checked in the order of its throws clause. A call that throws an exception changes
 * nothing." Each refused call is made on one of two objects that have the same past: whatever can be asked of both
 * afterwards, the buffer and all that undo() brings back too, must be the same. So must it be after a call of the
 * methods that only ask.
 */
public final class RefusedCallsTest {
    private static final Class<?> INDEX = IndexOutOfBoundsException.class;
    private static final Class<?> ARGUMENT = IllegalArgumentException.class;
    private static final Class<?> STATE = IllegalStateException.class;
    private static final Class<?> NO_SUCH = java.util.NoSuchElementException.class;
    private static final int MIN = Integer.MIN_VALUE;
    private static final int MAX = Integer.MAX_VALUE;

    /** Valve 0 is above its rule, valve 1 is open; pump 0 runs, 1 waits for its exhaust and 2 for its chamber. */
    private static final String SYSTEM = "chamber 100 50 10;chamber 20 0 0;pump 0 out 1 100 1000000;"
            + "pump 0 1 4 10 999999 999999;pump 1 out 1 0 999999;valve 0 1 2 0;valve 1 out 1 0;flange 0 7;flange 1 20;";
    private static final String BUFFER = "wait 3;seal 1;";

    private interface CallWith {
        void on(VacuumSequencer x, int argument);
    }

    public static void main(String[] args) {
        texts();
        noSuchParts();
        changesThatMayNotBe();
        changesWithWrongNumbers();
        valuesThatAreNot();
        forecastsThatAreNot();
        hunts();
        reportAndUndo();
        orderOfTwo();
        orderOfThree();
        callsThatOnlyAsk();
        Check.end();
    }

    private static VacuumSequencer fixture() {
        return Check.after(Check.reading(SYSTEM), x -> x.start(0), x -> x.test(1, 2), x -> x.open(1),
                VacuumSequencer::writeReport, x -> x.setLeak(1, 21), Check.reading("chamber 1 0 0;x"),
                x -> Check.put(x, BUFFER));
    }

    /** What can be asked of an object; its buffer is read and its changes are undone for it. */
    private static String everything(VacuumSequencer x) {
        StringBuilder all = new StringBuilder(Check.view(x));
        for (int i = 0; i < 1000; i++) {
            try {
                all.append(' ').append(x.reportByte(i));
            } catch (IndexOutOfBoundsException end) {
                break;
            }
        }
        all.append("\nrecipe ").append(x.runRecipe()).append('\n').append(Check.state(x));
        for (int depth = x.undoDepth(); depth > 0; depth--) {
            all.append("\nundo ").append(x.undo());
            if (x.count(0) > 0) {
                all.append(' ').append(x.count(4)).append(' ').append(x.gas(0)).append(' ').append(x.count(7));
            }
            for (int f = 0; f < x.count(3); f++) {
                all.append(' ').append(x.flange(f, 1));
            }
        }
        return all.toString();
    }

    /** The call on an object with a past of its own. */
    private static void refused(String what, Class<?> due, Check.Deed past, Check.Deed call) {
        compare(what, due, Check.after(past), Check.after(past), call);
    }

    private static void refused(String what, Class<?> due, Check.Deed call) {
        compare(what, due, fixture(), fixture(), call);
    }

    private static void compare(String what, Class<?> due, VacuumSequencer one, VacuumSequencer other,
            Check.Deed call) {
        Class<?> got = null;
        try {
            call.on(one);
        } catch (RuntimeException e) {
            got = e.getClass();
        }
        Check.due("what " + what + " throws", String.valueOf(got), String.valueOf(due));
        Check.due("what is after " + what, everything(one), everything(other));
    }

    /** The call with each of the arguments. */
    private static void each(String what, Class<?> due, int[] arguments, CallWith call) {
        for (int argument : arguments) {
            refused(what + " with " + argument, due, x -> call.on(x, argument));
        }
    }

    private static void texts() {
        each("truncateText", ARGUMENT, new int[] {MIN, -1, 15, MAX}, (x, length) -> x.truncateText(length));
        Check.Deed full = x -> Check.put(x, "wait 1;" + " ".repeat(874));
        refused("appendText", STATE, full, x -> x.appendText(0, 0, 0, 0, 0));
        Check.Deed wrong = x -> Check.put(x, "boil");
        refused("truncateText of a wrong recipe", ARGUMENT, wrong, x -> x.truncateText(5));
    }

    private static void noSuchParts() {
        int[] chambers = {MIN, -1, 2, MAX};
        int[] pumps = {MIN, -1, 3, MAX};
        each("open", INDEX, chambers, VacuumSequencer::open);
        each("close", INDEX, chambers, VacuumSequencer::close);
        each("start", INDEX, pumps, VacuumSequencer::start);
        each("stop", INDEX, pumps, VacuumSequencer::stop);
        each("passUntil", INDEX, chambers, (x, c) -> x.passUntil(c, 1000000));
        each("seal", INDEX, chambers, VacuumSequencer::seal);
        each("setLeak", INDEX, chambers, (x, f) -> x.setLeak(f, 1));
        each("setOutgassing", INDEX, chambers, (x, c) -> x.setOutgassing(c, 1));
        each("setRule", INDEX, chambers, (x, v) -> x.setRule(v, 1));
        each("test", INDEX, chambers, (x, c) -> x.test(c, 2));
        each("chamber", INDEX, chambers, (x, c) -> x.chamber(c, 0));
        each("gas", INDEX, chambers, VacuumSequencer::gas);
        each("pump", INDEX, pumps, (x, p) -> x.pump(p, 0));
        each("valve", INDEX, chambers, (x, v) -> x.valve(v, 0));
        each("flange", INDEX, chambers, (x, f) -> x.flange(f, 0));
        each("mayOpen", INDEX, chambers, VacuumSequencer::mayOpen);
        each("mayStart", INDEX, pumps, VacuumSequencer::mayStart);
        each("joined", INDEX, chambers, VacuumSequencer::joined);
        each("isVented", INDEX, chambers, VacuumSequencer::isVented);
        each("spread", INDEX, chambers, VacuumSequencer::spread);
        each("isIsolated", INDEX, chambers, VacuumSequencer::isIsolated);
        each("fewestValves", INDEX, chambers, (x, c) -> x.fewestValves(c, 0));
        each("settled", INDEX, chambers, VacuumSequencer::settled);
    }

    private static void changesThatMayNotBe() {
        refused("open above the rule", STATE, x -> x.open(0));
        refused("open of an open valve", STATE, x -> x.open(1));
        refused("close of a closed valve", STATE, x -> x.close(0));
        refused("start of a running pump", STATE, x -> x.start(0));
        refused("start above the backing pressure", STATE, x -> x.start(1));
        refused("start above high", STATE, x -> x.start(2));
        refused("stop of a pump that does not run", STATE, x -> x.stop(1));
        refused("passUntil of what never comes", STATE, x -> x.passUntil(1, 999999));
        refused("passUntil of what comes too late", STATE, x -> x.passUntil(0, 99));
        refused("test at an open valve", STATE, x -> x.test(1, 2));
        refused("test at a running pump", STATE, x -> x.test(0, 2));
        refused("undo of nothing", STATE, x -> Check.put(x, BUFFER), VacuumSequencer::undo);
    }

    private static void changesWithWrongNumbers() {
        each("pass", ARGUMENT, new int[] {MIN, -1, 0, 1000, MAX}, VacuumSequencer::pass);
        each("passUntil", ARGUMENT, new int[] {MIN, -1, 1000001, MAX}, (x, p) -> x.passUntil(0, p));
        each("setLeak", ARGUMENT, new int[] {MIN, -1, 10000, MAX}, (x, leak) -> x.setLeak(1, leak));
        each("setOutgassing", ARGUMENT, new int[] {MIN, -1, 10000, MAX}, (x, o) -> x.setOutgassing(1, o));
        each("setRule", ARGUMENT, new int[] {MIN, -1, 1000001, MAX}, (x, rule) -> x.setRule(1, rule));
        Check.Deed closed = Check.reading(SYSTEM);
        for (int ticks : new int[] {MIN, -2, 0, 1, 3, 999, 1000, MAX}) {
            refused("test of " + ticks, ARGUMENT, closed, x -> x.test(1, ticks));
        }
    }

    private static void valuesThatAreNot() {
        each("count", ARGUMENT, new int[] {MIN, -1, 8, MAX}, VacuumSequencer::count);
        each("chamber", ARGUMENT, new int[] {MIN, -1, 7, MAX}, (x, what) -> x.chamber(1, what));
        each("pump", ARGUMENT, new int[] {MIN, -1, 8, MAX}, (x, what) -> x.pump(2, what));
        each("valve", ARGUMENT, new int[] {MIN, -1, 7, MAX}, (x, what) -> x.valve(1, what));
        each("flange", ARGUMENT, new int[] {MIN, -1, 2, MAX}, (x, what) -> x.flange(1, what));
        each("rise", ARGUMENT, new int[] {MIN, -1, 4, MAX}, (x, what) -> x.rise(0, what));
        each("rise", INDEX, new int[] {MIN, -1, 1, MAX}, (x, ago) -> x.rise(ago, 0));
        each("riseGas", INDEX, new int[] {MIN, -1, 1, MAX}, (x, ago) -> x.riseGas(ago, true));
        each("fewestValves", ARGUMENT, new int[] {MIN, -2, 2, MAX}, (x, other) -> x.fewestValves(0, other));
        Check.Deed open = x -> {
            Check.reading("chamber 1 0 0;valve 0 out 1 0;").on(x);
            x.open(0);
        };
        refused("widest without a closed valve", NO_SUCH, open, VacuumSequencer::widest);
    }

    private static void forecastsThatAreNot() {
        int[] chambers = {MIN, -1, 2, MAX};
        each("pressureAfter", INDEX, chambers, (x, c) -> x.pressureAfter(c, 1));
        each("lowest", INDEX, chambers, (x, c) -> x.lowest(c, 1));
        each("ticksTo", INDEX, chambers, (x, c) -> x.ticksTo(c, 1));
        each("meanPressure", INDEX, chambers, (x, c) -> x.meanPressure(c, 1));
        each("bestPump", INDEX, chambers, (x, c) -> x.bestPump(c, 1));
        each("bestValve", INDEX, chambers, (x, c) -> x.bestValve(c, 1));
        int[] ticks = {MIN, -1, 0, 1000, MAX};
        each("pressureAfter", ARGUMENT, ticks, (x, t) -> x.pressureAfter(0, t));
        each("lowest", ARGUMENT, ticks, (x, t) -> x.lowest(0, t));
        each("tripsIn", ARGUMENT, ticks, VacuumSequencer::tripsIn);
        each("meanPressure", ARGUMENT, ticks, (x, t) -> x.meanPressure(0, t));
        Check.Deed asBuilt = Check.reading(SYSTEM);
        for (int t : ticks) {
            refused("bestPump of " + t, ARGUMENT, asBuilt, x -> x.bestPump(0, t));
            refused("bestValve of " + t, ARGUMENT, asBuilt, x -> x.bestValve(0, t));
        }
        each("ticksTo", ARGUMENT, new int[] {MIN, -1, 1000001, MAX}, (x, p) -> x.ticksTo(0, p));
        refused("ticksTo of what never comes", NO_SUCH, x -> x.ticksTo(1, 999999));
        refused("ticksTo of what comes too late", NO_SUCH, x -> x.ticksTo(0, 99));
        refused("bestPump of none", NO_SUCH, x -> x.bestPump(0, 999));
        refused("bestValve of none", NO_SUCH, x -> x.bestValve(0, 999));
    }

    private static void hunts() {
        each("spray", ARGUMENT, new int[] {MIN, -1, 4, 7, 1 << 24, MAX}, VacuumSequencer::spray);
        each("sprays", INDEX, new int[] {MIN, -1, 2, MAX}, (x, c) -> x.sprays(c, 1));
        each("found", INDEX, new int[] {MIN, -1, 2, MAX}, (x, c) -> x.found(c, 1));
        each("sprays", ARGUMENT, new int[] {MIN, -1, 0, 10000, MAX}, (x, t) -> x.sprays(0, t));
        each("found", ARGUMENT, new int[] {MIN, -1, 0, 10000, MAX}, (x, t) -> x.found(0, t));
        refused("worstFlange of none", NO_SUCH, x -> Check.put(x, BUFFER), VacuumSequencer::worstFlange);
    }

    private static void reportAndUndo() {
        int length = fixture().writeReport();
        each("reportByte", INDEX, new int[] {MIN, -1, length, MAX}, VacuumSequencer::reportByte);
        refused("reportByte without a report", INDEX, x -> Check.put(x, BUFFER), x -> x.reportByte(0));
        Check.Deed allUndone = x -> {
            Check.reading(SYSTEM).on(x);
            x.pass(2);
            x.undo();
        };
        refused("undo when all is undone", STATE, allUndone, VacuumSequencer::undo);
    }

    /** Calls for which both exceptions of their clause apply: the first one is due. */
    private static void orderOfTwo() {
        for (int far : new int[] {MIN, -1, 9, MAX}) {
            int out = far == 9 ? 1000001 : far;
            refused("setLeak(" + far + ", " + out + ")", INDEX, x -> x.setLeak(far, out));
            refused("setOutgassing(" + far + ", " + out + ")", INDEX, x -> x.setOutgassing(far, out));
            refused("setRule(" + far + ", " + out + ")", INDEX, x -> x.setRule(far, out));
            refused("chamber(" + far + ", " + out + ")", INDEX, x -> x.chamber(far, out));
            refused("pump(" + far + ", " + out + ")", INDEX, x -> x.pump(far, out));
            refused("valve(" + far + ", " + out + ")", INDEX, x -> x.valve(far, out));
            refused("flange(" + far + ", " + out + ")", INDEX, x -> x.flange(far, out));
            refused("rise(" + far + ", " + out + ")", INDEX, x -> x.rise(far, out));
            refused("fewestValves(" + far + ", -2)", INDEX, x -> x.fewestValves(far, -2));
            refused("pressureAfter(" + far + ", " + out + ")", INDEX, x -> x.pressureAfter(far, out));
            refused("lowest(" + far + ", " + out + ")", INDEX, x -> x.lowest(far, out));
            refused("meanPressure(" + far + ", " + out + ")", INDEX, x -> x.meanPressure(far, out));
            refused("sprays(" + far + ", " + out + ")", INDEX, x -> x.sprays(far, out));
            refused("found(" + far + ", " + out + ")", INDEX, x -> x.found(far, out));
        }
    }

    /** Calls for which two or three exceptions of a clause of three apply. */
    private static void orderOfThree() {
        for (int out : new int[] {MIN, -1, 1000001, MAX}) {
            refused("passUntil(-1, " + out + ")", INDEX, x -> x.passUntil(-1, out));
            refused("passUntil(1, " + out + ")", ARGUMENT, x -> x.passUntil(1, out));
            refused("test(2, " + out + ")", INDEX, x -> x.test(2, out));
            refused("test(0, " + out + ")", ARGUMENT, x -> x.test(0, out));
            refused("ticksTo(2, " + out + ")", INDEX, x -> x.ticksTo(2, out));
            refused("ticksTo(1, " + out + ")", ARGUMENT, x -> x.ticksTo(1, out));
            refused("bestPump(-1, " + out + ")", INDEX, x -> x.bestPump(-1, out));
            refused("bestPump(0, " + out + ")", ARGUMENT, x -> x.bestPump(0, out));
            refused("bestValve(2, " + out + ")", INDEX, x -> x.bestValve(2, out));
            refused("bestValve(0, " + out + ")", ARGUMENT, x -> x.bestValve(0, out));
        }
        refused("test(1, 3)", ARGUMENT, x -> x.test(1, 3));
        refused("bestPump without pumps", INDEX, x -> Check.put(x, BUFFER), x -> x.bestPump(0, 1));
        refused("bestValve without valves", INDEX, x -> Check.put(x, BUFFER), x -> x.bestValve(0, 1));
    }

    private static void asks(String what, Check.Deed call) {
        compare(what, null, fixture(), fixture(), call);
    }

    /** "All other methods change nothing but the text buffer ... and the report (writeReport)." */
    private static void callsThatOnlyAsk() {
        asks("errorCode", VacuumSequencer::errorCode);
        asks("errorPosition", VacuumSequencer::errorPosition);
        asks("count", x -> x.count(4));
        asks("chamber", x -> x.chamber(1, 6));
        asks("gas", x -> x.gas(1));
        asks("pump", x -> x.pump(2, 7));
        asks("valve", x -> x.valve(1, 6));
        asks("flange", x -> x.flange(1, 1));
        asks("rise", x -> x.rise(0, 3));
        asks("riseGas", x -> x.riseGas(0, true));
        asks("mayOpen", x -> x.mayOpen(0));
        asks("mayStart", x -> x.mayStart(1));
        asks("joined", x -> x.joined(1));
        asks("isVented", x -> x.isVented(1));
        asks("spread", x -> x.spread(1));
        asks("isIsolated", x -> x.isIsolated(0));
        asks("fewestValves", x -> x.fewestValves(0, VacuumSequencer.NONE));
        asks("settled", x -> x.settled(1));
        asks("openable", VacuumSequencer::openable);
        asks("widest", VacuumSequencer::widest);
        asks("pressureAfter", x -> x.pressureAfter(0, 9));
        asks("lowest", x -> x.lowest(0, 9));
        asks("ticksTo", x -> x.ticksTo(0, 900000));
        asks("tripsIn", x -> x.tripsIn(999));
        asks("meanPressure", x -> x.meanPressure(0, 9));
        asks("spray", x -> x.spray(3));
        asks("sprays", x -> x.sprays(0, 1));
        asks("found", x -> x.found(1, 1));
        asks("worstFlange", VacuumSequencer::worstFlange);
        asks("reportByte", x -> x.reportByte(0));
        asks("undoDepth", VacuumSequencer::undoDepth);
        asks("truncateText to its length", x -> x.truncateText(BUFFER.length()));
        Check.Deed asBuilt = x -> {
            Check.reading(SYSTEM).on(x);
            Check.put(x, BUFFER);
        };
        refused("bestPump, which answers", null, asBuilt, x -> x.bestPump(0, 9));
        refused("bestValve, which answers", null, asBuilt, x -> x.bestValve(0, 9));
        VacuumSequencer x = fixture();
        String view = Check.view(x);
        x.writeReport();
        x.appendText(0, 0, 0, 0, 0);
        x.truncateText(3);
        Check.due("what is after writeReport, appendText and truncateText", Check.view(x), view);
    }
}
