/**
 * The edges that the promises 37 to 43 name: what would be, if nothing else were done. A method for each sentence,
 * which stands above it. Chamber 0 of most systems here loses a tenth of its pressure in each tick of pump 0.
 */
public final class ForecastEdgesTest {
    private static final String TENTHS = "chamber 10 0 0;chamber 10 0 0;pump 0 out 1 0 1000000;"
            + "valve 0 1 999 1000000;valve 0 out 999 1000000;";
    private static final int[] NO_TICKS = {Integer.MIN_VALUE, -1, 0, 1000, Integer.MAX_VALUE};

    public static void main(String[] args) {
        chambersThatAreNotThere();
        ticksOutOfRange();
        oneTickAnd999();
        leastPressureNow();
        leastPressureOnTheWay();
        ticksNoneAnd999();
        pressuresOutOfRange();
        noTripsAndAll();
        tripsThatRepeat();
        meanOfOne();
        meanOfTruncatedPressures();
        greatestMean();
        equalPumps();
        noPump();
        startedAlone();
        equalValves();
        noValve();
        openedAlone();
        likeThePassing();
        Check.end();
    }

    /** "IndexOutOfBoundsException if there is no such chamber": it comes before all that is wrong besides. */
    private static void chambersThatAreNotThere() {
        VacuumSequencer x = Check.system(TENTHS);
        for (int c : new int[] {Integer.MIN_VALUE, -1, 2, Integer.MAX_VALUE}) {
            Check.throwsIndex("pressureAfter, chamber " + c, () -> x.pressureAfter(c, 1));
            Check.throwsIndex("lowest, chamber " + c, () -> x.lowest(c, 1));
            Check.throwsIndex("ticksTo, chamber " + c, () -> x.ticksTo(c, 1));
            Check.throwsIndex("meanPressure, chamber " + c, () -> x.meanPressure(c, 1));
            Check.throwsIndex("bestPump, chamber " + c, () -> x.bestPump(c, 1));
            Check.throwsIndex("bestValve, chamber " + c, () -> x.bestValve(c, 1));
        }
        Check.due("the last chamber", x.pressureAfter(1, 1), 1000000);
    }

    /** "ticks: 1 to 999". */
    private static void ticksOutOfRange() {
        VacuumSequencer x = Check.system(TENTHS);
        for (int ticks : NO_TICKS) {
            Check.throwsArgument("pressureAfter of " + ticks, () -> x.pressureAfter(0, ticks));
            Check.throwsArgument("lowest of " + ticks, () -> x.lowest(0, ticks));
            Check.throwsArgument("tripsIn of " + ticks, () -> x.tripsIn(ticks));
            Check.throwsArgument("meanPressure of " + ticks, () -> x.meanPressure(0, ticks));
            Check.throwsArgument("bestPump of " + ticks, () -> x.bestPump(0, ticks));
            Check.throwsArgument("bestValve of " + ticks, () -> x.bestValve(0, ticks));
        }
    }

    /** "ticks: 1 to 999": the fewest and the most that are allowed. */
    private static void oneTickAnd999() {
        VacuumSequencer x = Check.system("chamber 1 1 0;pump 0 out 1 999999 1000000;valve 0 out 1 0;");
        Check.due("pressureAfter of 1", x.pressureAfter(0, 1), 1000001);
        Check.due("pressureAfter of 999", x.pressureAfter(0, 999), 1000999);
        Check.due("lowest of 1", x.lowest(0, 1), 1000000);
        Check.due("lowest of 999", x.lowest(0, 999), 1000000);
        Check.due("tripsIn of 1", x.tripsIn(1), 0);
        Check.due("tripsIn of 999", x.tripsIn(999), 0);
        Check.due("meanPressure of 1", x.meanPressure(0, 1), 1000001);
        Check.due("meanPressure of 999", x.meanPressure(0, 999), 1000500);
        Check.due("bestPump of 1", x.bestPump(0, 1), 0);
        Check.due("bestPump of 999", x.bestPump(0, 999), 0);
        Check.due("bestValve of 1", x.bestValve(0, 1), 0);
        Check.due("bestValve of 999", x.bestValve(0, 999), 0);
    }

    /** lowest: "now and after each of the next ticks": now. */
    private static void leastPressureNow() {
        VacuumSequencer x = Check.system("chamber 1 7 0;");
        Check.due("it only rises", x.lowest(0, 999), 1000000);
        x.pass(1);
        Check.due("and rises", x.lowest(0, 1), 1000007);
    }

    /** lowest: "after each of the next ticks": the last one, and one between. */
    private static void leastPressureOnTheWay() {
        VacuumSequencer x = Check.system(TENTHS);
        x.start(0);
        Check.due("at the end of 1", x.lowest(0, 1), 900000);
        Check.due("at the end of 2", x.lowest(0, 2), 810000);
        // All is pumped in the first tick; then the exhaust is too full, and the leak brings 7 in each tick.
        VacuumSequencer y = Check.system("chamber 1 0 0;chamber 1 0 0;pump 0 1 1 0 1000000 1000000;flange 0 7;");
        y.start(0);
        Check.due("now", y.chamber(0, 3), 1000000);
        Check.due("at the end", y.pressureAfter(0, 3), 14);
        Check.due("between", y.lowest(0, 3), 0);
        y.pass(2);
        Check.due("not what was before now", y.lowest(0, 1), 7);
    }

    /** ticksTo: "0 to 999"; "NoSuchElementException if 999 ticks are not enough". */
    private static void ticksNoneAnd999() {
        VacuumSequencer x = Check.system("chamber 999 0 0;pump 0 out 1 0 1000000;");
        Check.due("none", x.ticksTo(0, 1000000), 0);
        Check.throwsNoSuch("without a pump", () -> x.ticksTo(0, 999999));
        x.start(0);
        Check.due("none with a pump", x.ticksTo(0, 1000000), 0);
        Check.due("one", x.ticksTo(0, 999999), 1);
        int at998 = x.pressureAfter(0, 998);
        int at999 = x.pressureAfter(0, 999);
        Check.due("998", x.ticksTo(0, at998), 998);
        Check.due("999", x.ticksTo(0, at999), 999);
        Check.throwsNoSuch("1000", () -> x.ticksTo(0, at999 - 1));
        x.pass(1);
        Check.due("999 of the 1000 are left", x.ticksTo(0, at999 - 1), 999);
    }

    /** ticksTo: "pressure: 0 to 1000000". */
    private static void pressuresOutOfRange() {
        VacuumSequencer x = Check.system("chamber 1 0 0;pump 0 out 1 0 1000000;");
        x.start(0);
        Check.due("0", x.ticksTo(0, 0), 1);
        Check.due("1000000", x.ticksTo(0, 1000000), 0);
        for (int pressure : new int[] {Integer.MIN_VALUE, -1, 1000001, Integer.MAX_VALUE}) {
            Check.throwsArgument("pressure " + pressure, () -> x.ticksTo(0, pressure));
        }
    }

    /** tripsIn: none, and each pump and each valve. */
    private static void noTripsAndAll() {
        Check.due("without parts", new VacuumSequencer().tripsIn(999), 0);
        VacuumSequencer x = Check.system("chamber 1 9 0;" + "pump 0 out 1 1000000 1000000;".repeat(6)
                + "valve 0 out 1 0;".repeat(10));
        for (int p = 0; p < 6; p++) {
            x.start(p);
        }
        for (int v = 0; v < 10; v++) {
            x.open(v);
        }
        // The first valve lets all out again, so that no pump trips; then no valve does.
        Check.due("none", x.tripsIn(999), 0);
        for (int v = 0; v < 10; v++) {
            x.close(v);
        }
        Check.due("each pump", x.tripsIn(1), 6);
        Check.due("each pump once", x.tripsIn(999), 6);
        Check.due("none so far", x.count(6), 0);
        VacuumSequencer y = Check.system("chamber 1 9 1;" + "valve 0 out 1 9;".repeat(10));
        y.pass(1);
        for (int v = 0; v < 10; v++) {
            y.open(v);
            y.setRule(v, 8);
        }
        Check.due("each valve", y.tripsIn(1), 10);
        Check.due("each valve once", y.tripsIn(999), 10);
        Check.due("none so far", y.count(5), 0);
    }

    /** A forecast leaves the trips where they were: asked again, it tells the same. */
    private static void tripsThatRepeat() {
        VacuumSequencer x = Check.system("chamber 1 9 0;pump 0 out 1 1000000 1000000;");
        x.start(0);
        Check.due("asked once", x.tripsIn(1), 1);
        Check.due("asked twice", x.tripsIn(1), 1);
        Check.due("passed", x.pass(1), 1);
        Check.due("asked behind it", x.tripsIn(1), 0);
    }

    /** meanPressure: "after each of the next ticks": not now. */
    private static void meanOfOne() {
        VacuumSequencer x = Check.system(TENTHS);
        x.start(0);
        Check.due("of one", x.meanPressure(0, 1), 900000);
        Check.due("of two", x.meanPressure(0, 2), 855000);
        Check.due("of three, no whole number", x.meanPressure(0, 3), 2439000.0 / 3.0);
        Check.due("of a chamber at rest", x.meanPressure(1, 999), 1000000);
    }

    /** "the sum of the pressures ... divided by their number, both converted to double". */
    private static void meanOfTruncatedPressures() {
        VacuumSequencer x = Check.system("chamber 2 1 0;");
        // The pressures are 1000000 and 1000001, and not 1000000.5 and 1000001.
        Check.due("of two", x.meanPressure(0, 2), 1000000.5);
        Check.due("of three", x.meanPressure(0, 3), 3000002.0 / 3.0);
        VacuumSequencer y = Check.system("chamber 1 0 0;pump 0 out 1 0 1000000;");
        y.start(0);
        Check.due("of nothing", y.meanPressure(0, 999), 0);
    }

    /** 999 pressures of 1000000000 make a sum above the greatest int. */
    private static void greatestMean() {
        VacuumSequencer x = Check.system("chamber 999 0 0;chamber 1 0 0;pump 0 1 999 0 1000000 1000000;");
        x.start(0);
        Check.due("of 999", x.meanPressure(1, 999), 1000000000);
        Check.due("of 999 of the empty one", x.meanPressure(0, 999), 0);
    }

    /** bestPump: "of several the lowest". */
    private static void equalPumps() {
        VacuumSequencer x = Check.system("chamber 10 0 0;chamber 1 0 0;" + "pump 0 out 1 0 1000000;".repeat(3)
                + "pump 0 out 2 0 1000000;".repeat(2) + "pump 1 out 1 0 1000000;");
        Check.due("the fastest", x.bestPump(0, 1), 3);
        x.start(3);
        Check.due("the other fast one", x.bestPump(0, 1), 4);
        x.start(4);
        Check.due("of three slow ones", x.bestPump(0, 1), 0);
        Check.due("the only one of chamber 1", x.bestPump(1, 1), 5);
        x.start(5);
        Check.due("of three without effect", x.bestPump(1, 1), 0);
    }

    /** bestPump: "if no pump may be started". */
    private static void noPump() {
        Check.throwsNoSuch("no pumps", () -> Check.system("chamber 1 0 0;").bestPump(0, 1));
        VacuumSequencer x = Check.system("chamber 1 0 0;chamber 1 0 0;pump 0 out 1 0 1000000;pump 0 out 1 0 999999;"
                + "pump 0 1 1 0 1000000 999999;");
        Check.due("one may", x.bestPump(0, 1), 0);
        x.start(0);
        Check.throwsNoSuch("none may", () -> x.bestPump(0, 1));
        Check.throwsNoSuch("none may for chamber 1", () -> x.bestPump(1, 999));
    }

    /** bestPump: "if it alone were started now": not with the one asked before, and nothing is started. */
    private static void startedAlone() {
        VacuumSequencer x = Check.system("chamber 10 0 0;chamber 10 0 0;pump 0 1 5 0 1000000 1000000;"
                + "pump 1 out 9 0 1000000;");
        // Pump 0 would raise chamber 1, pump 1 would leave a tenth of it.
        Check.due("for chamber 0", x.bestPump(0, 1), 0);
        Check.due("for chamber 1", x.bestPump(1, 1), 1);
        Check.due("none runs", x.pump(0, 6) + x.pump(1, 6), 0);
        VacuumSequencer y = Check.system("chamber 10 0 0;pump 0 out 9 900000 1000000;pump 0 out 1 0 1000000;"
                + "pump 0 out 2 0 1000000;");
        Check.due("the least after 1 tick", y.bestPump(0, 1), 2);
        Check.due("the least after 9 ticks", y.bestPump(0, 9), 2);
    }

    /** bestValve: "of several the lowest". */
    private static void equalValves() {
        VacuumSequencer x = Check.system("chamber 1 0 0;chamber 1 0 0;pump 1 out 1 500000 1000000;"
                + "valve 0 out 1 1000000;valve 0 1 1 1000000;valve 1 0 1 1000000;");
        Check.due("of three without a difference", x.bestValve(0, 1), 0);
        x.start(0);
        x.pass(1);
        Check.due("of two to the lower chamber", x.bestValve(0, 1), 1);
        x.open(1);
        Check.due("the other one", x.bestValve(0, 2), 2);
        x.open(2);
        Check.due("the last one", x.bestValve(0, 1), 0);
    }

    /** bestValve: "if no valve may be opened". */
    private static void noValve() {
        Check.throwsNoSuch("no valves", () -> Check.system("chamber 1 0 0;").bestValve(0, 1));
        VacuumSequencer x = Check.system("chamber 1 5 1;valve 0 out 1 5;valve 0 out 1 4;");
        x.pass(1);
        Check.due("one at its rule", x.bestValve(0, 1), 0);
        x.open(0);
        Check.throwsNoSuch("one open, one above its rule", () -> x.bestValve(0, 1));
        x.close(0);
        x.setRule(0, 4);
        Check.throwsNoSuch("both above their rules", () -> x.bestValve(0, 999));
    }

    /** bestValve: "if it alone were opened now": not with the one asked before, and nothing is opened. */
    private static void openedAlone() {
        VacuumSequencer x = Check.system("chamber 1 0 0;chamber 1 0 0;chamber 1 0 0;pump 2 out 1 0 1000000;"
                + "valve 1 2 1 1000000;valve 0 1 1 1000000;valve 0 out 1 1000000;");
        x.start(0);
        x.pass(1);
        // Valve 1 alone brings nothing to chamber 0: only with valve 0 open it would.
        Check.due("no difference yet", x.bestValve(0, 9), 0);
        Check.due("none is open", x.valve(0, 4) + x.valve(1, 4) + x.valve(2, 4), 0);
        x.open(0);
        Check.due("with valve 0", x.bestValve(0, 9), 1);
    }

    /** What would be is what comes, when nothing else is done; and asking is no change. */
    private static void likeThePassing() {
        VacuumSequencer x = Check.system("chamber 3 0 3;chamber 7 0 0;pump 0 out 2 0 1000000;"
                + "pump 1 0 1 5 1000000 800000;pump 0 out 1 0 1000000;valve 0 1 1 200000;flange 0 9;");
        x.start(0);
        x.open(0);
        x.pass(1);
        x.start(1);
        x.setOutgassing(0, 50);
        String view = Check.view(x);
        int after = x.pressureAfter(0, 20);
        int trips = x.tripsIn(20);
        Check.due("the valve trips, if no pump does", trips > 0, true);
        int ticks = x.ticksTo(0, after);
        x.lowest(0, 20);
        x.meanPressure(0, 20);
        x.bestPump(0, 20);
        Check.throwsNoSuch("no valve may be opened", () -> x.bestValve(0, 20));
        Check.due("asking changes nothing", Check.view(x), view);
        Check.due("trips", x.pass(20), trips);
        Check.due("pressure", x.chamber(0, 3), after);
        x.undo();
        Check.due("ticks", x.passUntil(0, after), ticks);
    }
}
