/** Promises 37 to 43: what would be, if nothing else were done. */
public final class ForecastTest {
    /** Chamber 0 loses a tenth of its pressure in each tick while pump 0 runs. */
    private static final String TENTHS = "chamber 10 0 0;chamber 10 0 0;pump 0 out 1 0 1000000;"
            + "valve 0 1 999 1000000;valve 0 out 999 1000000;";

    public static void main(String[] args) {
        arguments();
        pressures();
        ticksToPressure();
        trips();
        bestPumps();
        bestValves();
        nothingChanges();
        Check.end();
    }

    private static void arguments() {
        VacuumSequencer x = Check.system(TENTHS);
        for (int chamber : new int[] {-1, 2, Integer.MAX_VALUE, Integer.MIN_VALUE}) {
            Check.throwsIndex("pressureAfter(" + chamber + ", 0)", () -> x.pressureAfter(chamber, 0));
            Check.throwsIndex("lowest(" + chamber + ", 0)", () -> x.lowest(chamber, 0));
            Check.throwsIndex("ticksTo(" + chamber + ", -1)", () -> x.ticksTo(chamber, -1));
            Check.throwsIndex("meanPressure(" + chamber + ", 0)", () -> x.meanPressure(chamber, 0));
            Check.throwsIndex("bestPump(" + chamber + ", 0)", () -> x.bestPump(chamber, 0));
            Check.throwsIndex("bestValve(" + chamber + ", 0)", () -> x.bestValve(chamber, 0));
        }
        x.start(0);
        x.open(0);
        x.open(1);
        for (int ticks : new int[] {0, 1000, -1, Integer.MAX_VALUE, Integer.MIN_VALUE}) {
            Check.throwsArgument("pressureAfter(0, " + ticks + ")", () -> x.pressureAfter(0, ticks));
            Check.throwsArgument("lowest(0, " + ticks + ")", () -> x.lowest(0, ticks));
            Check.throwsArgument("tripsIn(" + ticks + ")", () -> x.tripsIn(ticks));
            Check.throwsArgument("meanPressure(0, " + ticks + ")", () -> x.meanPressure(0, ticks));
            Check.throwsArgument("bestPump(0, " + ticks + ")", () -> x.bestPump(0, ticks));
            Check.throwsArgument("bestValve(0, " + ticks + ")", () -> x.bestValve(0, ticks));
        }
        Check.throwsArgument("ticksTo(0, -1)", () -> x.ticksTo(0, -1));
        Check.throwsArgument("ticksTo(0, 1000001)", () -> x.ticksTo(0, 1000001));
        Check.throwsNoSuch("bestPump of running ones", () -> x.bestPump(0, 1));
        Check.throwsNoSuch("bestValve of open ones", () -> x.bestValve(0, 1));
        VacuumSequencer y = Check.system("chamber 1 0 0;");
        Check.throwsNoSuch("bestPump without pumps", () -> y.bestPump(0, 1));
        Check.throwsNoSuch("bestValve without valves", () -> y.bestValve(0, 1));
        Check.due("tripsIn without parts", new VacuumSequencer().tripsIn(999), 0);
    }

    private static void pressures() {
        VacuumSequencer x = Check.system(TENTHS);
        Check.due("pressureAfter of a still chamber", x.pressureAfter(0, 999), 1000000);
        Check.due("lowest of a still chamber", x.lowest(0, 999), 1000000);
        Check.due("meanPressure of a still chamber", x.meanPressure(0, 999), 1000000);
        x.start(0);
        Check.due("pressureAfter(0, 1)", x.pressureAfter(0, 1), 900000);
        Check.due("pressureAfter(0, 3)", x.pressureAfter(0, 3), 729000);
        Check.due("pressureAfter of the other", x.pressureAfter(1, 3), 1000000);
        Check.due("lowest(0, 2)", x.lowest(0, 2), 810000);
        Check.due("meanPressure(0, 1)", x.meanPressure(0, 1), 900000);
        Check.due("meanPressure(0, 2)", x.meanPressure(0, 2), 855000);
        Check.due("meanPressure(0, 3)", x.meanPressure(0, 3), 2439000.0 / 3.0);
        x.pass(1);
        x.stop(0);
        x.setOutgassing(0, 25);
        Check.due("lowest is now", x.lowest(0, 5), 900000);
        // Pressures 900002, 900005 and 900007.
        Check.due("a mean that is no whole number", x.meanPressure(0, 3), 2700014.0 / 3.0);
        x.setOutgassing(0, 9999);
        x.start(0);
        // 9009999 - 900999 = 8109000; 8118999 - 811899 = 7307100.
        Check.due("lowest at the end", x.lowest(0, 2), 730710);
    }

    private static void ticksToPressure() {
        VacuumSequencer x = Check.system(TENTHS);
        Check.due("ticksTo what is so already", x.ticksTo(0, 1000000), 0);
        Check.throwsNoSuch("ticksTo what never comes", () -> x.ticksTo(0, 999999));
        x.start(0);
        Check.due("ticksTo(0, 999999)", x.ticksTo(0, 999999), 1);
        Check.due("ticksTo(0, 900000)", x.ticksTo(0, 900000), 1);
        Check.due("ticksTo(0, 899999)", x.ticksTo(0, 899999), 2);
        Check.due("ticksTo(0, 729000)", x.ticksTo(0, 729000), 3);
        VacuumSequencer y = Check.system("chamber 999 0 0;pump 0 out 1 0 1000000;");
        y.start(0);
        int after = y.pressureAfter(0, 999);
        Check.due("999 ticks", y.ticksTo(0, after), 999);
        Check.throwsNoSuch("1000 ticks", () -> y.ticksTo(0, after - 1));
    }

    private static void trips() {
        VacuumSequencer x = Check.system("chamber 10 1000 0;chamber 10 0 0;pump 0 out 1 1000000 1000000;"
                + "valve 0 1 1 9;");
        Check.due("no trip of what is at rest", x.tripsIn(999), 0);
        x.start(0);
        x.open(0);
        // In the first tick the pump trips, as 90 are left; then the valve does, between 90 and 10.
        Check.due("a pump trips", x.tripsIn(1), 1);
        Check.due("a pump and a valve trip", x.tripsIn(2), 2);
        Check.due("no more trips", x.tripsIn(999), 2);
        Check.due("no trip has been", x.count(5) + x.count(6), 0);
        Check.due("pass tells the same", x.pass(2), 2);
        Check.due("valves", x.count(5), 1);
        Check.due("pumps", x.count(6), 1);
    }

    private static void bestPumps() {
        VacuumSequencer x = Check.system("chamber 10 0 0;chamber 10 0 0;pump 0 out 1 0 1000000;pump 0 out 2 0 999999;"
                + "pump 0 out 2 900000 1000000;pump 1 out 3 0 1000000;pump 0 1 1 0 1000000 1000000;"
                + "valve 0 1 999 1000000;");
        // Pump 2 leaves 980000, the pumps 0 and 4 leave 900000; pump 1 may not be started.
        Check.due("bestPump", x.bestPump(0, 1), 0);
        Check.due("bestPump of another chamber", x.bestPump(1, 1), 3);
        x.start(0);
        x.pass(1);
        Check.due("bestPump with one running", x.bestPump(0, 1), 1);
        x.start(1);
        Check.due("bestPump of the rest", x.bestPump(0, 1), 4);
        x.open(0);
        Check.due("bestPump through a valve", x.bestPump(0, 9), 3);
        VacuumSequencer y = Check.system("chamber 10 0 0;pump 0 out 1 0 999999;");
        Check.throwsNoSuch("no pump may be started", () -> y.bestPump(0, 1));
        VacuumSequencer z = Check.system("chamber 10 0 0;pump 0 out 5 500000 1000000;pump 0 out 1 0 1000000;"
                + "pump 0 out 1 0 1000000;");
        Check.due("fast at first", z.bestPump(0, 1), 0);
        Check.due("slow but deep", z.bestPump(0, 99), 1);
    }

    private static void bestValves() {
        VacuumSequencer x = Check.system("chamber 10 0 0;chamber 10 0 0;chamber 10 0 0;"
                + "pump 1 out 1 0 1000000;pump 2 out 2 0 1000000;"
                + "valve 0 out 9 1000000;valve 0 1 999 1000000;valve 2 0 999 100000;valve 1 0 999 1000000;");
        Check.due("bestValve of equals", x.bestValve(0, 1), 0);
        x.start(0);
        x.start(1);
        x.pass(1);
        // Chamber 1 has 900000, chamber 2 has 800000, which is too low for valve 2.
        Check.due("bestValve", x.bestValve(0, 1), 1);
        x.setRule(2, 1000000);
        Check.due("bestValve with a better one", x.bestValve(0, 1), 2);
        x.open(2);
        Check.due("bestValve of the rest", x.bestValve(0, 1), 1);
        Check.due("bestValve for chamber 2", x.bestValve(2, 3), 1);
        x.open(1);
        x.open(3);
        Check.due("the last one", x.bestValve(0, 5), 0);
        VacuumSequencer y = Check.system("chamber 10 1 0;valve 0 out 1 0;valve 0 out 1 0;");
        Check.due("bestValve at the rule", y.bestValve(0, 1), 0);
        y.setOutgassing(0, 10);
        y.pass(1);
        Check.throwsNoSuch("no valve may be opened", () -> y.bestValve(0, 1));
    }

    private static void nothingChanges() {
        VacuumSequencer x = Check.system(TENTHS);
        x.pressureAfter(0, 5);
        x.lowest(0, 5);
        x.ticksTo(0, 1000000);
        x.tripsIn(5);
        x.meanPressure(0, 5);
        x.bestPump(0, 5);
        x.bestValve(0, 5);
        Check.throwsNoSuch("ticksTo(0, 0)", () -> x.ticksTo(0, 0));
        Check.due("time", x.count(4), 0);
        Check.due("gas", x.gas(0), 10000000);
        Check.due("pump", x.pump(0, 6), 0);
        Check.due("valve", x.valve(0, 4), 0);
        Check.due("undoDepth", x.undoDepth(), 0);
    }
}
