/**
 * The edges that sections 4 and 7 and the promises 7 to 17, 50 and 51 name: changes, rate of rise tests and undo.
 * A method for each sentence, which stands above it. What a refused call leaves is held by RefusedCallsTest.
 */
public final class ChangeEdgesTest {
    private static final int[] FAR = {Integer.MIN_VALUE, -1, Integer.MAX_VALUE};

    public static void main(String[] args) {
        opening();
        closing();
        starting();
        stopping();
        passing();
        passingUntilAPressure();
        passingNoTick();
        passingLong();
        sealing();
        settingLeaks();
        settingOutgassing();
        settingRules();
        isolatedChambers();
        ticksOfATest();
        halves();
        tightOrNot();
        nineTenths();
        latestTenTests();
        changesWithoutADifference();
        latestTenChanges();
        ringOfChanges();
        undoneChanges();
        parsingEndsUndo();
        notPartOfTheState();
        Check.end();
    }

    /** "IndexOutOfBoundsException if there is no such valve": the last one, and those that are not there. */
    private static void opening() {
        VacuumSequencer x = Check.system("chamber 1 0 0;" + "valve 0 out 1 0;".repeat(10));
        Check.due("open(9)", x.open(9), 0);
        Check.throwsState("open(9) again", () -> x.open(9));
        Check.throwsIndex("open(10)", () -> x.open(10));
        for (int far : FAR) {
            Check.throwsIndex("open(" + far + ")", () -> x.open(far));
        }
        VacuumSequencer y = Check.system("chamber 1 0 0;");
        Check.throwsIndex("open(0) without valves", () -> y.open(0));
    }

    /** close: "if there is no such valve", "if it is closed". */
    private static void closing() {
        VacuumSequencer x = Check.system("chamber 1 5 1;" + "valve 0 out 1 0;".repeat(10));
        x.open(9);
        x.setRule(9, 1000000);
        x.close(9);
        x.pass(1);
        x.open(9);
        x.setRule(9, 0);
        Check.due("close(9), though its condition is not met", x.close(9), 5);
        Check.throwsState("close(9) again", () -> x.close(9));
        Check.throwsState("close(0), never opened", () -> x.close(0));
        Check.throwsIndex("close(10)", () -> x.close(10));
        for (int far : FAR) {
            Check.throwsIndex("close(" + far + ")", () -> x.close(far));
        }
    }

    /** start: "if there is no such pump", "if it is running". */
    private static void starting() {
        VacuumSequencer x = Check.system("chamber 1 0 0;" + "pump 0 out 1 0 1000000;".repeat(6));
        Check.due("start(5)", x.start(5), 1000000);
        Check.throwsState("start(5) again", () -> x.start(5));
        Check.throwsIndex("start(6)", () -> x.start(6));
        for (int far : FAR) {
            Check.throwsIndex("start(" + far + ")", () -> x.start(far));
        }
        VacuumSequencer y = Check.system("chamber 1 0 0;");
        Check.throwsIndex("start(0) without pumps", () -> y.start(0));
    }

    /** stop: "if there is no such pump", "if it is not running". */
    private static void stopping() {
        VacuumSequencer x = Check.system("chamber 1 5 1;" + "pump 0 out 1 0 1000000;".repeat(6));
        x.start(5);
        Check.due("stop(5)", x.stop(5), 1000000);
        Check.throwsState("stop(5) again", () -> x.stop(5));
        Check.throwsState("stop(0), never started", () -> x.stop(0));
        x.start(0);
        x.pass(1);
        Check.throwsState("stop(0), tripped", () -> x.stop(0));
        Check.throwsIndex("stop(6)", () -> x.stop(6));
        for (int far : FAR) {
            Check.throwsIndex("stop(" + far + ")", () -> x.stop(far));
        }
    }

    /** pass: "ticks: 1 to 999". */
    private static void passing() {
        VacuumSequencer x = Check.system("chamber 1 1 0;");
        Check.throwsArgument("pass(0)", () -> x.pass(0));
        Check.throwsArgument("pass(1000)", () -> x.pass(1000));
        for (int far : FAR) {
            Check.throwsArgument("pass(" + far + ")", () -> x.pass(far));
        }
        Check.due("pass(1)", x.pass(1), 0);
        Check.due("gas after it", x.gas(0), 1000001);
        Check.due("pass(999)", x.pass(999), 0);
        Check.due("gas after it", x.gas(0), 1001000);
    }

    /** passUntil: "pressure: 0 to 1000000", "if there is no such chamber". */
    private static void passingUntilAPressure() {
        VacuumSequencer x = Check.system("chamber 1 0 0;chamber 2 0 0;pump 1 out 9 0 1000000;");
        Check.throwsIndex("no chamber 2", () -> x.passUntil(2, 0));
        for (int far : FAR) {
            Check.throwsIndex("no chamber " + far, () -> x.passUntil(far, 0));
            Check.throwsArgument("no pressure " + far, () -> x.passUntil(0, far));
        }
        Check.throwsArgument("no pressure 1000001", () -> x.passUntil(0, 1000001));
        Check.due("pressure 1000000", x.passUntil(0, 1000000), 0);
        Check.throwsState("chamber 0 stays above 999999", () -> x.passUntil(0, 999999));
        x.start(0);
        Check.due("pressure 0", x.passUntil(1, 0), 1);
    }

    /** "until the pressure of a chamber is at most a pressure; none if it is so already". */
    private static void passingNoTick() {
        VacuumSequencer x = Check.system("chamber 10 0 0;pump 0 out 1 0 1000000;");
        x.start(0);
        x.pass(1);
        Check.due("above it already", x.passUntil(0, 900001), 0);
        Check.due("at it already", x.passUntil(0, 900000), 0);
        Check.due("time", x.count(4), 1);
        Check.due("one below it", x.passUntil(0, 899999), 1);
        Check.due("time", x.count(4), 2);
    }

    /** "IllegalStateException if 999 ticks are not enough": 999 are, and 1000 would be. */
    private static void passingLong() {
        VacuumSequencer x = Check.system("chamber 999 0 0;pump 0 out 1 0 1000000;");
        x.start(0);
        int at998 = x.pressureAfter(0, 998);
        int at999 = x.pressureAfter(0, 999);
        Check.throwsState("1000 ticks", () -> x.passUntil(0, at999 - 1));
        Check.due("time after it", x.count(4), 0);
        Check.due("998 ticks", x.passUntil(0, at998), 998);
        x.undo();
        Check.due("999 ticks", x.passUntil(0, at999), 999);
        Check.due("time after them", x.count(4), 999);
        Check.due("the 1000th", x.passUntil(0, at999 - 1), 1);
    }

    /** "Makes the leak of a flange 0." */
    private static void sealing() {
        VacuumSequencer x = Check.system("chamber 1 0 0;" + "flange 0 9999;".repeat(24));
        Check.due("seal(23)", x.seal(23), 9999);
        Check.due("seal(23) again", x.seal(23), 0);
        Check.throwsIndex("seal(24)", () -> x.seal(24));
        for (int far : FAR) {
            Check.throwsIndex("seal(" + far + ")", () -> x.seal(far));
        }
        for (int f = 0; f < 23; f++) {
            x.seal(f);
        }
        Check.due("all are sealed", x.chamber(0, 4), 0);
    }

    /** setLeak: "leak: 0 to 9999". */
    private static void settingLeaks() {
        VacuumSequencer x = Check.system("chamber 1 0 0;flange 0 5;flange 0 6;");
        Check.due("to 9999", x.setLeak(1, 9999), 6);
        Check.throwsArgument("to 10000", () -> x.setLeak(1, 10000));
        Check.due("to 0", x.setLeak(1, 0), 9999);
        for (int far : FAR) {
            Check.throwsArgument("to " + far, () -> x.setLeak(1, far));
            Check.throwsIndex("of flange " + far, () -> x.setLeak(far, 0));
        }
        Check.throwsIndex("of flange 2", () -> x.setLeak(2, 0));
        Check.due("the other flange", x.flange(0, 1), 5);
    }

    /** setOutgassing: "outgassing: 0 to 9999". */
    private static void settingOutgassing() {
        VacuumSequencer x = Check.system("chamber 1 5 0;chamber 1 6 0;");
        Check.due("to 9999", x.setOutgassing(1, 9999), 6);
        Check.throwsArgument("to 10000", () -> x.setOutgassing(1, 10000));
        Check.due("to 0", x.setOutgassing(1, 0), 9999);
        for (int far : FAR) {
            Check.throwsArgument("to " + far, () -> x.setOutgassing(1, far));
            Check.throwsIndex("of chamber " + far, () -> x.setOutgassing(far, 0));
        }
        Check.throwsIndex("of chamber 2", () -> x.setOutgassing(2, 0));
        Check.due("the other chamber", x.chamber(0, 1), 5);
    }

    /** setRule: "rule: 0 to 1000000". */
    private static void settingRules() {
        VacuumSequencer x = Check.system("chamber 1 0 0;valve 0 out 1 5;valve 0 out 1 6;");
        Check.due("to 1000000", x.setRule(1, 1000000), 6);
        Check.throwsArgument("to 1000001", () -> x.setRule(1, 1000001));
        Check.due("to 0", x.setRule(1, 0), 1000000);
        for (int far : FAR) {
            Check.throwsArgument("to " + far, () -> x.setRule(1, far));
            Check.throwsIndex("of valve " + far, () -> x.setRule(far, 0));
        }
        Check.throwsIndex("of valve 2", () -> x.setRule(2, 0));
        Check.due("the other valve", x.valve(0, 3), 5);
    }

    private static void isolated(VacuumSequencer x, int set) {
        for (int c = 0; c < x.count(0); c++) {
            int chamber = c;
            boolean due = (set >> c & 1) == 1;
            Check.due("isIsolated(" + c + ")", x.isIsolated(c), due);
            if (due) {
                Check.due("test of chamber " + c, x.test(c, 2), 0);
                x.undo();
            } else {
                Check.throwsState("test of chamber " + c, () -> x.test(chamber, 2));
            }
        }
    }

    /** "if all its valves are closed, and no running pump pumps it or has it as its exhaust". */
    private static void isolatedChambers() {
        VacuumSequencer x = Check.system("chamber 1 0 0;chamber 1 0 0;chamber 1 0 0;"
                + "pump 0 1 1 1000000 1000000 1000000;pump 2 out 1 1000000 1000000;"
                + "valve 0 1 1 0;valve 2 out 1 0;valve 1 2 1 0;");
        isolated(x, 7);
        int[] afterOpen = {4, 3, 1};
        for (int v = 0; v < 3; v++) {
            x.open(v);
            isolated(x, afterOpen[v]);
            x.close(v);
        }
        int[] afterStart = {4, 3};
        for (int p = 0; p < 2; p++) {
            x.start(p);
            isolated(x, afterStart[p]);
            x.stop(p);
        }
        isolated(x, 7);
        x.open(0);
        x.open(2);
        x.close(0);
        Check.due("one of two valves is still open", x.isIsolated(1), false);
        VacuumSequencer y = Check.system("chamber 1 0 0;");
        Check.due("a chamber without valves and pumps", y.isIsolated(0), true);
    }

    /** test: "ticks: 2 to 998, even". */
    private static void ticksOfATest() {
        VacuumSequencer x = Check.system("chamber 1 0 0;chamber 1 0 0;");
        for (int ticks : new int[] {Integer.MIN_VALUE, -2, -1, 0, 1, 3, 997, 999, 1000, Integer.MAX_VALUE}) {
            Check.throwsArgument("test(1, " + ticks + ")", () -> x.test(1, ticks));
        }
        Check.due("time after them", x.count(4), 0);
        Check.due("2 ticks", x.test(1, 2), 0);
        Check.due("998 ticks", x.test(1, 998), 0);
        Check.due("time after both", x.count(4), 1000);
        Check.throwsIndex("no chamber 2", () -> x.test(2, 2));
        for (int far : FAR) {
            Check.throwsIndex("no chamber " + far, () -> x.test(far, 2));
        }
    }

    /** "The first rise is the gas that the chamber got in the first half of the ticks, the second rise ...". */
    private static void halves() {
        VacuumSequencer x = Check.system("chamber 1 8 2;");
        x.test(0, 2);
        Check.due("the first of two ticks", x.riseGas(0, false), 8);
        Check.due("the second of two ticks", x.riseGas(0, true), 4);
        x.undo();
        x.test(0, 4);
        Check.due("the first two of four ticks", x.riseGas(0, false), 12);
        Check.due("the last two of four ticks", x.riseGas(0, true), 3);
        VacuumSequencer y = Check.system("chamber 999 0 0;pump 0 out 999 0 1000000;" + "flange 0 9999;".repeat(24));
        y.start(0);
        y.pass(1);
        y.stop(0);
        y.setOutgassing(0, 9999);
        y.test(0, 998);
        Check.due("the greatest rise", y.riseGas(0, false), 499L * 25 * 9999);
        Check.due("the greatest second rise", y.riseGas(0, true), 499L * 25 * 9999);
    }

    /** "The result is 0 (tight) if both are 0": neither of them alone makes it so. */
    private static void tightOrNot() {
        VacuumSequencer x = Check.system("chamber 1 0 0;chamber 1 1 1;chamber 1 1 0;pump 0 out 1 999999 1000000;"
                + "flange 0 1;");
        Check.due("both are 0", x.test(0, 2), 0);
        Check.due("the second one alone is 0", Check.system("chamber 1 1 1;").test(0, 2), 1);
        Check.due("both are 1", x.test(2, 2), 2);
        x.start(0);
        x.pass(1);
        x.stop(0);
        Check.due("a leak ends at the outside's pressure", x.test(0, 2), 1);
        Check.due("its first rise", x.riseGas(0, false), 1);
        Check.due("its second rise", x.riseGas(0, true), 0);
    }

    /** "2 (leak) if second rise * 10 is at least first rise * 9, and otherwise 1 (outgassing)". */
    private static void nineTenths() {
        int[][] rises = {{10, 10, 9, 2}, {10, 5, 8, 1}, {100, 10, 90, 2}, {100, 9, 89, 1}, {9, 9, 8, 1},
            {9999, 10, 9000, 2}, {9999, 9, 8888, 1}, {1, 2, 1, 2}};
        for (int[] r : rises) {
            VacuumSequencer x = Check.system("chamber 1 " + r[0] + " " + r[1] + ";");
            Check.due("result of " + r[0] + " and " + r[2], x.test(0, 2), r[3]);
            Check.due("the first rise", x.riseGas(0, false), r[0]);
            Check.due("the second rise", x.riseGas(0, true), r[2]);
            Check.due("the result that is kept", x.rise(0, 1), r[3]);
        }
    }

    /** "The latest 10 tests are kept." */
    private static void latestTenTests() {
        VacuumSequencer x = Check.system("chamber 1 3 0;chamber 1 3 0;");
        for (int i = 1; i <= 23; i++) {
            x.test(i % 2, 2 * i);
            keptTests(x, i);
        }
        for (int i = 22; i >= 13; i--) {
            x.undo();
            keptTests(x, i);
        }
    }

    /** The tests that are kept when the latest one was of 2 * latest ticks, the one before of two less, and so on. */
    private static void keptTests(VacuumSequencer x, int latest) {
        int kept = Math.min(latest, 10);
        Check.due("kept tests", x.count(7), kept);
        for (int ago : new int[] {0, kept - 1}) {
            int i = latest - ago;
            Check.due("chamber " + ago + " before " + latest, x.rise(ago, 0), i % 2);
            Check.due("end " + ago + " before " + latest, x.rise(ago, 2), i * (i + 1));
            Check.due("ticks " + ago + " before " + latest, x.rise(ago, 3), 2 * i);
            Check.due("first rise " + ago + " before " + latest, x.riseGas(ago, false), 3 * i);
            Check.due("second rise " + ago + " before " + latest, x.riseGas(ago, true), 3 * i);
        }
        Check.throwsIndex("none before the oldest", () -> x.rise(kept, 3));
        Check.throwsIndex("nor its rise", () -> x.riseGas(kept, true));
    }

    /** "A change is a successful call of ..., even if nothing becomes different." */
    private static void changesWithoutADifference() {
        VacuumSequencer x = Check.system("chamber 1 5 0;valve 0 out 1 6;flange 0 7;flange 0 0;");
        String state = Check.state(x);
        x.seal(1);
        Check.due("seal of a tight one", x.undoDepth(), 1);
        x.setLeak(0, 7);
        Check.due("the same leak", x.undoDepth(), 2);
        x.setOutgassing(0, 5);
        Check.due("the same outgassing", x.undoDepth(), 3);
        x.setRule(0, 6);
        Check.due("the same rule", x.undoDepth(), 4);
        x.passUntil(0, 1000000);
        Check.due("no tick", x.undoDepth(), 5);
        Check.recipe(x, "");
        Check.due("no step", x.undoDepth(), 6);
        Check.due("nothing is different", Check.state(x), state);
        for (int left = 5; left >= 0; left--) {
            Check.due("undo", x.undo(), left);
            Check.due("nothing is different by undo", Check.state(x), state);
        }
        Check.throwsState("undo of nothing", x::undo);
    }

    /** "the latest 10 changes can be undone"; undoDepth: "0 to 10"; undo: "if there is none". */
    private static void latestTenChanges() {
        for (int changes = 0; changes <= 12; changes++) {
            VacuumSequencer x = Check.system("chamber 1 0 0;");
            for (int i = 1; i <= changes; i++) {
                x.setOutgassing(0, i);
            }
            int depth = Math.min(changes, 10);
            Check.due("undoDepth after " + changes, x.undoDepth(), depth);
            for (int left = depth - 1; left >= 0; left--) {
                Check.due("undo after " + changes, x.undo(), left);
            }
            Check.throwsState("one more after " + changes, x::undo);
            Check.due("the oldest that comes back", x.chamber(0, 1), changes - depth);
        }
        Check.throwsState("undo of a new object", () -> new VacuumSequencer().undo());
    }

    /** The system with all parts that there can be, after some changes of those with high numbers. */
    private static VacuumSequencer changed(int changes) {
        VacuumSequencer x = Check.system("chamber 1 0 0;".repeat(8) + "pump 6 out 1 1000000 1000000;".repeat(6)
                + "valve 7 out 1 0;".repeat(10) + "flange 7 0;".repeat(24));
        for (int i = 0; i < changes; i++) {
            switch (i % 6) {
                case 0 -> x.setOutgassing(7, 100 + i);
                case 1 -> x.setRule(9, i);
                case 2 -> x.setLeak(23, i);
                case 3 -> x.test(7, 2);
                case 4 -> x.start(2 + i / 6);
                default -> x.pass(1);
            }
        }
        return x;
    }

    /** Every part comes back, those with the highest numbers too, when more changes were made than can be undone. */
    private static void ringOfChanges() {
        for (int left = 25; left >= 16; left--) {
            VacuumSequencer x = changed(26);
            for (int undone = 26; undone > left; undone--) {
                x.undo();
            }
            Check.due("the leaks after change " + left, x.chamber(7, 4), (left + 3) / 6 * 6 - 4);
            Check.due("the state after change " + left, Check.state(x), Check.state(changed(left)));
        }
    }

    /** "undo() restores the state before the latest change that was not undone". */
    private static void undoneChanges() {
        VacuumSequencer x = Check.system("chamber 1 0 0;");
        for (int i = 1; i <= 10; i++) {
            x.setOutgassing(0, i);
        }
        for (int i = 0; i < 10; i++) {
            x.undo();
        }
        x.setOutgassing(0, 20);
        x.setOutgassing(0, 30);
        Check.due("undo", x.undo(), 1);
        Check.due("outgassing", x.chamber(0, 1), 20);
        x.setOutgassing(0, 40);
        Check.due("undo", x.undo(), 1);
        Check.due("not what was undone before", x.chamber(0, 1), 20);
        Check.due("undo", x.undo(), 0);
        Check.due("outgassing", x.chamber(0, 1), 0);
        Check.throwsState("undo of what was undone", x::undo);
    }

    /** "parseSystem(), if it is successful, makes all earlier changes not undoable." */
    private static void parsingEndsUndo() {
        VacuumSequencer x = Check.system("chamber 1 0 0;");
        x.setOutgassing(0, 3);
        x.setOutgassing(0, 4);
        Check.put(x, "chamber 0 0 0;");
        x.parseSystem();
        Check.due("a wrong text", x.undoDepth(), 2);
        Check.due("undo after it", x.undo(), 1);
        Check.due("outgassing", x.chamber(0, 1), 3);
        Check.put(x, "chamber 1 9 0;");
        x.parseSystem();
        Check.due("a correct text", x.undoDepth(), 0);
        Check.throwsState("undo after it", x::undo);
        x.pass(1);
        Check.due("undo of a change behind it", x.undo(), 0);
        Check.throwsState("and no further", x::undo);
        Check.due("outgassing of the new system", x.chamber(0, 1), 9);
        VacuumSequencer y = new VacuumSequencer();
        y.pass(1);
        Check.put(y, "chamber 1 0 0;");
        y.parseSystem();
        Check.due("the time is 0", y.count(4), 0);
        Check.due("changes without parts", y.undoDepth(), 0);
    }

    /** "The text buffer, the report and the latest error are not part of the state." */
    private static void notPartOfTheState() {
        VacuumSequencer x = Check.system("chamber 1 0 0;");
        x.pass(5);
        x.writeReport();
        Check.put(x, "chamber 1 0 0;x");
        x.parseSystem();
        Check.put(x, "wait 7;");
        x.undo();
        Check.due("time", x.count(4), 0);
        Check.due("the report", x.reportByte(0), 'c');
        Check.due("its end", x.reportByte(17), '\n');
        Check.due("errorCode", x.errorCode(), 1);
        Check.due("errorPosition", x.errorPosition(), 14);
        Check.due("the buffer", x.truncateText(7), 7);
        Check.due("its text", x.runRecipe(), 1);
        Check.due("time", x.count(4), 7);
        x.undo();
        Check.throwsArgument("undo of runRecipe leaves the buffer empty", () -> x.truncateText(1));
    }
}
