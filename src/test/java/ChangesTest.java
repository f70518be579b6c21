/** Promises 7 to 18: the changes, with the steps of a tick, and recipes. */
public final class ChangesTest {
    /** A pump to the outside and one to chamber 0; valves between the chambers and to the outside; four flanges. */
    private static final String BASE = "chamber 10 0 0;chamber 20 50 10;chamber 5 0 0;"
            + "pump 0 out 5 100 1000000;pump 1 0 4 10 1000000 900000;"
            + "valve 0 1 2 300000;valve 1 out 1 1000;valve 2 0 999 1000000;"
            + "flange 1 7;flange 1 0;flange 1 20;flange 2 5;";

    public static void main(String[] args) {
        openAndClose();
        startAndStop();
        passing();
        valveTrips();
        outgassingAndLeaks();
        flowThroughValves();
        flowInOrder();
        pumping();
        pumpTrips();
        fullPressure();
        passingUntil();
        settingNumbers();
        tests();
        latestTests();
        recipes();
        wrongRecipes();
        Check.end();
    }

    private static void openAndClose() {
        VacuumSequencer x = Check.system(BASE);
        Check.throwsIndex("open(-1)", () -> x.open(-1));
        Check.throwsIndex("open(3)", () -> x.open(3));
        Check.throwsIndex("close(-1)", () -> x.close(-1));
        Check.throwsIndex("close(3)", () -> x.close(3));
        Check.throwsState("close of a closed valve", () -> x.close(2));
        Check.due("nothing is a change yet", x.undoDepth(), 0);
        x.start(0);
        x.pass(1);
        Check.throwsState("open with 499950 between", () -> x.open(0));
        Check.due("open with 499950 between and a rule for it", x.open(2), 499950);
        Check.throwsState("open of an open valve", () -> x.open(2));
        Check.due("the valve is open", x.valve(2, 4), 1);
        Check.due("close", x.close(2), 499950);
        Check.due("the valve is closed", x.valve(2, 4), 0);
        Check.due("changes", x.undoDepth(), 4);
        x.setRule(0, x.valve(0, 6) - 1);
        Check.throwsState("open one above the rule", () -> x.open(0));
        x.setRule(0, x.valve(0, 6));
        Check.due("open at the rule", x.open(0), x.valve(0, 6));
    }

    private static void startAndStop() {
        VacuumSequencer x = Check.system(BASE);
        Check.throwsIndex("start(-1)", () -> x.start(-1));
        Check.throwsIndex("start(2)", () -> x.start(2));
        Check.throwsIndex("stop(-1)", () -> x.stop(-1));
        Check.throwsIndex("stop(2)", () -> x.stop(2));
        Check.throwsState("stop of a stopped pump", () -> x.stop(0));
        Check.throwsState("start with too much at the exhaust", () -> x.start(1));
        Check.due("start", x.start(0), 1000000);
        Check.throwsState("start of a running pump", () -> x.start(0));
        x.pass(1);
        Check.throwsState("start with too much in the chamber", () -> x.start(1));
        Check.due("stop", x.stop(0), 500050);
        Check.due("the pump is stopped", x.pump(0, 6), 0);
        Check.due("start again", x.start(0), 500050);

        VacuumSequencer y = Check.system("chamber 5 0 0;chamber 6 0 0;pump 0 out 1 0 999999;"
                + "pump 0 1 1 0 1000000 1000000;pump 0 1 1 0 1000000 999999;");
        Check.throwsState("start one above high", () -> y.start(0));
        Check.due("start at high and at the backing pressure", y.start(1), 1000000);
        Check.throwsState("start one above the backing pressure", () -> y.start(2));
        Check.due("changes", y.undoDepth(), 1);
    }

    private static void passing() {
        VacuumSequencer x = Check.system(BASE);
        Check.throwsArgument("pass(0)", () -> x.pass(0));
        Check.throwsArgument("pass(-1)", () -> x.pass(-1));
        Check.throwsArgument("pass(1000)", () -> x.pass(1000));
        Check.due("time after wrong passes", x.count(4), 0);
        Check.due("pass(1)", x.pass(1), 0);
        Check.due("pass(999)", x.pass(999), 0);
        Check.due("time", x.count(4), 1000);
        VacuumSequencer y = new VacuumSequencer();
        Check.due("pass without parts", y.pass(7), 0);
        Check.due("time without parts", y.count(4), 7);
        Check.due("a change without parts", y.undo(), 0);
        Check.due("time after undo", y.count(4), 0);
    }

    private static void valveTrips() {
        VacuumSequencer x = Check.system("chamber 1 10 0;chamber 1 0 0;valve 0 1 1 0;valve 0 out 1 5;valve 1 out 9 0;");
        x.open(0);
        x.open(1);
        x.open(2);
        // 10 units come, 5 go through valve 0, 5 go through valve 1, and 5 come from chamber 1 outside.
        Check.due("pass(1) with no difference before", x.pass(1), 0);
        Check.due("gas 0", x.gas(0), 1000000);
        Check.due("gas 1", x.gas(1), 1000000);
        x.setRule(1, 0);
        x.close(0);
        Check.due("nothing trips at the rule", x.pass(1), 0);
        Check.due("the outside takes it all", x.gas(0), 1000000);
        x.setOutgassing(1, 3);
        x.close(2);
        x.pass(1);
        x.setRule(2, 3);
        Check.due("open at a difference of 3", x.open(2), 3);
        x.setRule(2, 2);
        Check.due("one trip", x.pass(3), 1);
        Check.due("the valve has closed", x.valve(2, 4), 0);
        Check.due("trips of valve 2", x.valve(2, 5), 1);
        Check.due("trips of valve 1", x.valve(1, 5), 0);
        Check.due("trips of valves", x.count(5), 1);
        Check.due("trips of pumps", x.count(6), 0);
        Check.due("it closed before gas went through", x.gas(1), 1000012);
    }

    private static void outgassingAndLeaks() {
        VacuumSequencer x = Check.system("chamber 10 95 10;chamber 10 7 0;pump 0 out 999 0 1000000;"
                + "flange 0 3;flange 0 4;flange 1 100;");
        x.pass(1);
        Check.due("no leak at 1000000", x.gas(0), 10000095);
        Check.due("outgassing 95 - 9", x.chamber(0, 1), 86);
        Check.due("outgassing without decay", x.chamber(1, 1), 7);
        x.setOutgassing(0, 0);
        x.undo();
        x.undo();
        x.setOutgassing(0, 0);
        x.start(0);
        x.pass(1);
        Check.due("all is pumped", x.gas(0), 0);
        x.stop(0);
        x.setOutgassing(0, 86);
        x.pass(1);
        Check.due("outgassing 86 and leaks 7", x.gas(0), 93);
        Check.due("outgassing 86 - 8", x.chamber(0, 1), 78);
        x.pass(20);
        // 78, 71, 64, 58, 53, 48, 44, 40, 36, 33, 30, 27, 25, 23, 21, 19, 18, 17, 16, 15; then 14.
        Check.due("outgassing decays", x.chamber(0, 1), 14);
        Check.due("and is summed", x.gas(0), 93 + 736 + 20 * 7);
        x.pass(10);
        Check.due("outgassing below the decay stays", x.chamber(0, 1), 9);
        VacuumSequencer y = Check.system("chamber 2 9999 1;flange 0 1;");
        y.pass(2);
        Check.due("a decay of 1 ends at once", y.gas(0), 2009999);
        Check.due("outgassing of 0", y.chamber(0, 1), 0);
        VacuumSequencer z = Check.system("chamber 2 0 0;pump 0 out 1 999998 1000000;flange 0 3;");
        z.start(0);
        z.pass(1);
        Check.due("one above low for a volume of 2", z.gas(0), 1999998);
        z.stop(0);
        z.pass(1);
        Check.due("leak at 999999", z.gas(0), 2000001);
        z.pass(1);
        Check.due("no leak at 1000000 and some", z.gas(0), 2000001);
    }

    private static void flowThroughValves() {
        VacuumSequencer x = Check.system("chamber 7 0 0;chamber 3 0 0;pump 0 out 1 0 1000000;"
                + "valve 0 1 999 1000000;valve 1 0 2 1000000;valve 0 out 999 1000000;valve 0 out 3 1000000;");
        x.start(0);
        x.pass(1);
        x.stop(0);
        Check.due("gas pumped", x.gas(0), 6000000);
        Check.due("pressure", x.chamber(0, 3), 857142);
        x.open(0);
        x.pass(1);
        // d = 142858; d * 7 * 3 / 10 = 300001.8
        Check.due("half way at most, to 0", x.gas(0), 6300001);
        Check.due("half way at most, from 1", x.gas(1), 2699999);
        x.undo();
        x.undo();
        x.open(1);
        x.pass(1);
        Check.due("conductance * d", x.gas(0), 6000000 + 2 * 142858);
        Check.due("the other side", x.gas(1), 3000000 - 2 * 142858);
        x.undo();
        x.undo();
        x.open(2);
        x.pass(1);
        Check.due("d * V from the outside", x.gas(0), 6000000 + 142858 * 7);
        x.undo();
        x.undo();
        x.open(3);
        x.pass(1);
        Check.due("conductance * d from the outside", x.gas(0), 6000000 + 142858 * 3);
        x.setOutgassing(1, 9999);
        x.pass(1);
        x.open(1);
        Check.due("chamber 0 before", x.gas(0), 6428574 + (1000000 - 918367) * 3);
        x.pass(1);
        // Chamber 1 has 3019998 and so 1006666; chamber 0 has 6673473 and so 953353: 2 * 53313 go, then 0 has 968585.
        Check.due("from the higher second side", x.gas(1), 3019998 - 106626);
        Check.due("then from the outside", x.gas(0), 6673473 + 106626 + 3 * (1000000 - 968585));
    }

    private static void flowInOrder() {
        VacuumSequencer x = Check.system("chamber 1 0 0;chamber 1 0 0;chamber 1 0 0;pump 0 out 1 999000 1000000;"
                + "pump 1 2 1 0 0 0;valve 1 2 9 1000000;valve 0 1 9 1000000;valve 0 out 9 1000000;");
        x.start(0);
        x.pass(1);
        x.stop(0);
        Check.due("pumped to low", x.gas(0), 999000);
        x.open(0);
        x.open(1);
        x.pass(1);
        Check.due("valve 0 before valve 1", x.gas(2), 1000000);
        Check.due("then half the difference", x.gas(1), 999500);
        x.open(2);
        x.pass(1);
        // Valve 0: 2 gives 250 to 1; valve 1: 1 has 999750 and gives 125 to 0; valve 2: the outside gives the rest.
        Check.due("gas 2", x.gas(2), 999750);
        Check.due("gas 1", x.gas(1), 999625);
        Check.due("gas 0", x.gas(0), 1000000);
    }

    private static void pumping() {
        VacuumSequencer x = Check.system("chamber 10 0 0;chamber 10 0 0;pump 0 1 3 400000 1000000 1000000;"
                + "pump 1 out 999 0 1000000;pump 0 out 10 0 1000000;");
        x.start(1);
        x.pass(1);
        Check.due("at most the gas", x.gas(1), 0);
        x.stop(1);
        x.start(0);
        x.pass(1);
        Check.due("speed * (pressure - low) go", x.gas(0), 10000000 - 3 * 600000);
        Check.due("to the exhaust", x.gas(1), 3 * 600000);
        x.stop(0);
        x.start(2);
        x.pass(1);
        Check.due("all", x.gas(0), 0);
        x.stop(2);
        x.start(0);
        Check.due("nothing below low, and no trip", x.pass(5), 0);
        Check.due("gas below low", x.gas(1), 1800000);
        Check.due("the pump still runs", x.pump(0, 6), 1);
        VacuumSequencer y = Check.system("chamber 10 0 0;chamber 10 0 0;pump 0 out 4 0 1000000;"
                + "pump 0 1 1 500000 1000000 1000000;");
        y.start(0);
        y.start(1);
        y.pass(1);
        // Pump 0 takes 4000000 first; pump 1 then finds 600000.
        Check.due("pumps in order", y.gas(1), 10100000);
        Check.due("pumps in order, the chamber", y.gas(0), 5900000);
    }

    private static void pumpTrips() {
        VacuumSequencer x = Check.system("chamber 1 9 0;chamber 1 0 0;chamber 1 0 0;"
                + "pump 0 out 1 1000000 1000000;pump 1 2 1 0 1000000 1000000;pump 1 out 1 0 1000000;");
        x.start(0);
        x.start(1);
        x.start(2);
        Check.due("a trip of the first pump alone", x.pass(1), 1);
        Check.due("pump 0 has stopped", x.pump(0, 6), 0);
        Check.due("its trips", x.pump(0, 7), 1);
        Check.due("what it left", x.gas(0), 1000009);
        Check.due("pump 1 filled its exhaust", x.gas(2), 2000000);
        Check.due("pump 1 runs", x.pump(1, 6), 1);
        Check.due("a trip of pump 1", x.pass(1), 1);
        Check.due("pump 1 has stopped", x.pump(1, 6), 0);
        Check.due("pump 2 runs", x.pump(2, 6), 1);
        Check.due("trips of pumps", x.count(6), 2);
        Check.due("trips of valves", x.count(5), 0);
        Check.due("no more trips", x.pass(9), 0);
    }

    /** 999000000 units pumped into a chamber of volume 1 bring its pressure to 1000000000. */
    private static void fullPressure() {
        String text = "chamber 999 0 0;chamber 1 50 7;pump 0 1 999 0 1000000 1000000;pump 1 out 999 0 1000000;"
                + "flange 1 1;";
        VacuumSequencer x = Check.system(text);
        x.setOutgassing(1, 0);
        x.start(0);
        x.pass(1);
        Check.due("pressure of a full exhaust", x.chamber(1, 3), 1000000000);
        x.setOutgassing(1, 50);
        Check.due("the pump trips", x.pass(1), 1);
        Check.due("no outgassing at 1000000000", x.gas(1), 1000000000);
        Check.due("but decay", x.chamber(1, 1), 43);
        Check.due("a test of it is tight", x.test(1, 2), 0);
        VacuumSequencer y = Check.system(text);
        y.setOutgassing(1, 0);
        y.start(1);
        y.pass(1);
        y.stop(1);
        y.setLeak(0, 999);
        y.pass(1);
        y.setLeak(0, 0);
        y.setOutgassing(1, 9000);
        y.start(0);
        y.pass(1);
        Check.due("below 1000000000", y.gas(1), 999009999);
        y.pass(1);
        Check.due("outgassing below 1000000000", y.gas(1), 999009999 + 7715);
    }

    private static void passingUntil() {
        VacuumSequencer x = Check.system(BASE);
        Check.throwsIndex("passUntil(-1, -1)", () -> x.passUntil(-1, -1));
        Check.throwsIndex("passUntil(3, 0)", () -> x.passUntil(3, 0));
        Check.throwsArgument("passUntil(0, -1)", () -> x.passUntil(0, -1));
        Check.throwsArgument("passUntil(0, 1000001)", () -> x.passUntil(0, 1000001));
        Check.throwsState("passUntil(0, 999999)", () -> x.passUntil(0, 999999));
        Check.due("no tick by a call that throws", x.count(4), 0);
        Check.due("no change by a call that throws", x.undoDepth(), 0);
        Check.due("passUntil what is so already", x.passUntil(0, 1000000), 0);
        Check.due("is a change", x.undoDepth(), 1);
        x.start(0);
        Check.due("passUntil 500050", x.passUntil(0, 500050), 1);
        Check.due("passUntil 250074", x.passUntil(0, 250074), 2);
        Check.due("time", x.count(4), 3);
        VacuumSequencer z = Check.system("chamber 999 0 0;pump 0 out 1 0 1000000;");
        z.start(0);
        int after = z.pressureAfter(0, 999);
        int before = z.pressureAfter(0, 998);
        Check.due("still falling", after < before, true);
        Check.throwsState("1000 ticks are too many", () -> z.passUntil(0, after - 1));
        Check.due("999 ticks are enough", z.passUntil(0, after), 999);
        Check.due("999 ticks", z.count(4), 999);
    }

    private static void settingNumbers() {
        VacuumSequencer x = Check.system(BASE);
        Check.throwsIndex("seal(-1)", () -> x.seal(-1));
        Check.throwsIndex("seal(4)", () -> x.seal(4));
        Check.throwsIndex("setLeak(4, -1)", () -> x.setLeak(4, -1));
        Check.throwsIndex("setLeak(-1, 0)", () -> x.setLeak(-1, 0));
        Check.throwsArgument("setLeak(0, -1)", () -> x.setLeak(0, -1));
        Check.throwsArgument("setLeak(0, 10000)", () -> x.setLeak(0, 10000));
        Check.throwsIndex("setOutgassing(3, -1)", () -> x.setOutgassing(3, -1));
        Check.throwsIndex("setOutgassing(-1, 0)", () -> x.setOutgassing(-1, 0));
        Check.throwsArgument("setOutgassing(0, -1)", () -> x.setOutgassing(0, -1));
        Check.throwsArgument("setOutgassing(0, 10000)", () -> x.setOutgassing(0, 10000));
        Check.throwsIndex("setRule(3, -1)", () -> x.setRule(3, -1));
        Check.throwsIndex("setRule(-1, 0)", () -> x.setRule(-1, 0));
        Check.throwsArgument("setRule(0, -1)", () -> x.setRule(0, -1));
        Check.throwsArgument("setRule(0, 1000001)", () -> x.setRule(0, 1000001));
        Check.due("nothing is a change yet", x.undoDepth(), 0);
        Check.due("seal", x.seal(2), 20);
        Check.due("leak", x.flange(2, 1), 0);
        Check.due("seal again", x.seal(2), 0);
        Check.due("setLeak to 9999", x.setLeak(0, 9999), 7);
        Check.due("leak", x.flange(0, 1), 9999);
        Check.due("leaks of the chamber", x.chamber(1, 4), 9999);
        Check.due("setLeak to 0", x.setLeak(0, 0), 9999);
        Check.due("setOutgassing to 9999", x.setOutgassing(1, 9999), 50);
        Check.due("outgassing", x.chamber(1, 1), 9999);
        Check.due("setOutgassing to 0", x.setOutgassing(1, 0), 9999);
        Check.due("setRule to 1000000", x.setRule(0, 1000000), 300000);
        Check.due("rule", x.valve(0, 3), 1000000);
        Check.due("setRule to 0", x.setRule(0, 0), 1000000);
        Check.due("changes", x.undoDepth(), 8);
    }

    private static void tests() {
        VacuumSequencer x = Check.system(BASE);
        Check.throwsIndex("test(-1, 0)", () -> x.test(-1, 0));
        Check.throwsIndex("test(3, 2)", () -> x.test(3, 2));
        Check.throwsArgument("test(0, 0)", () -> x.test(0, 0));
        Check.throwsArgument("test(0, 1)", () -> x.test(0, 1));
        Check.throwsArgument("test(0, 3)", () -> x.test(0, 3));
        Check.throwsArgument("test(0, 999)", () -> x.test(0, 999));
        Check.throwsArgument("test(0, 1000)", () -> x.test(0, 1000));
        Check.throwsArgument("test(0, -2)", () -> x.test(0, -2));
        x.start(0);
        Check.throwsArgument("test(0, 3) at a running pump", () -> x.test(0, 3));
        Check.throwsState("test at a running pump", () -> x.test(0, 2));
        x.pass(1);
        x.stop(0);
        x.open(2);
        Check.throwsState("test at an open valve", () -> x.test(2, 2));
        Check.throwsState("test at its other side", () -> x.test(0, 2));
        x.close(2);
        Check.due("changes", x.undoDepth(), 5);
        Check.due("time", x.count(4), 1);
        Check.due("a tight chamber", x.test(0, 998), 0);
        Check.due("time after a test", x.count(4), 999);
        Check.due("rises", x.riseGas(0, false) + x.riseGas(0, true), 0);

        VacuumSequencer y = Check.system("chamber 9 100 0;chamber 9 100 10;chamber 9 100 9;chamber 9 1 1;chamber 9 0 0;"
                + "pump 4 0 1 0 1000000 1000000;flange 0 9;");
        Check.due("steady outgassing", y.test(0, 2), 2);
        Check.due("first rise", y.riseGas(0, false), 100);
        y.undo();
        Check.due("90 after 100 is a leak", y.test(1, 2), 2);
        Check.due("first rise", y.riseGas(0, false), 100);
        Check.due("second rise", y.riseGas(0, true), 90);
        y.undo();
        Check.due("89 after 100 is outgassing", y.test(2, 2), 1);
        Check.due("second rise", y.riseGas(0, true), 89);
        y.undo();
        Check.due("0 after 1 is outgassing", y.test(3, 2), 1);
        y.undo();
        y.start(0);
        Check.throwsState("test at an exhaust", () -> y.test(0, 2));
        Check.due("test beside it", y.test(1, 4), 1);
        Check.due("first rise of two ticks", y.riseGas(0, false), 190);
        Check.due("second rise of two ticks", y.riseGas(0, true), 81 + 73);
    }

    private static void latestTests() {
        VacuumSequencer x = Check.system("chamber 1 0 0;chamber 1 5 0;");
        for (int i = 1; i <= 12; i++) {
            x.test(i % 2, 2 * i);
            Check.due("tests kept", x.count(7), Math.min(i, 10));
        }
        for (int ago = 0; ago < 10; ago++) {
            int i = 12 - ago;
            Check.due("chamber of test " + i, x.rise(ago, 0), i % 2);
            Check.due("result of test " + i, x.rise(ago, 1), i % 2 == 0 ? 0 : 2);
            Check.due("end of test " + i, x.rise(ago, 2), i * (i + 1));
            Check.due("ticks of test " + i, x.rise(ago, 3), 2 * i);
            Check.due("rise of test " + i, x.riseGas(ago, true), i % 2 * 5 * i);
        }
        Check.throwsIndex("rise(10, 0)", () -> x.rise(10, 0));
        x.undo();
        Check.due("undo of a test brings the oldest back", x.rise(9, 3), 4);
        Check.due("and the one before is the latest", x.rise(0, 3), 22);
    }

    private static void recipes() {
        VacuumSequencer x = Check.system(BASE);
        Check.due("an empty recipe", Check.recipe(x, ""), 0);
        Check.due("a blank recipe", Check.recipe(x, " \n "), 0);
        Check.due("both are changes", x.undoDepth(), 2);
        Check.due("a recipe", Check.recipe(x, "start 0;wait 1;stop 0;open 2;close 2;seal 2;start0;until 0 60000;"
                + " stop 0 ; \n test 0 2;"), 10);
        Check.due("it is one change", x.undoDepth(), 3);
        Check.due("its time", x.count(4), 7);
        Check.due("its test", x.rise(0, 3), 2);
        Check.due("what it sealed", x.flange(2, 1), 0);
        Check.due("what it stopped", x.pump(0, 6), 0);
        Check.due("the buffer is empty", Check.recipe(x, "wait 0000999;"), 1);
        Check.due("its time", x.count(4), 1006);
        Check.due("a step sees the one before", Check.recipe(x, "start 0;start 0;"), -9);
        Check.due("undo", x.undo(), 3);
        Check.due("undo", x.undo(), 2);
        Check.due("time after undo", x.count(4), 0);
        Check.due("leak after undo", x.flange(2, 1), 20);
        Check.due("tests after undo", x.count(7), 0);
        VacuumSequencer y = new VacuumSequencer();
        Check.due("a recipe without parts", Check.recipe(y, "wait 5;wait 6;"), 2);
        Check.due("time without parts", y.count(4), 11);
        Check.due("a step without its part", Check.recipe(y, "wait 5;seal 0;"), -8);
        Check.due("time after it", y.count(4), 11);
    }

    private static void wrongRecipe(String text, int position) {
        VacuumSequencer x = Check.system(BASE);
        Check.due("recipe " + text, Check.recipe(x, "wait 1;start 0;" + text), -1 - 15 - position);
        Check.due("time after recipe " + text, x.count(4), 0);
        Check.due("changes after recipe " + text, x.undoDepth(), 0);
        Check.due("pump after recipe " + text, x.pump(0, 6), 0);
        Check.throwsArgument("buffer after recipe " + text, () -> x.truncateText(1));
    }

    private static void wrongRecipes() {
        wrongRecipe("boil 1;", 0);
        wrongRecipe(" boil 1;", 1);
        wrongRecipe("1;", 0);
        wrongRecipe(";", 0);
        wrongRecipe("Wait 1;", 0);
        wrongRecipe("wait", 4);
        wrongRecipe("wait  ", 6);
        wrongRecipe("wait;", 4);
        wrongRecipe("wait x;", 5);
        wrongRecipe("wait 1", 6);
        wrongRecipe("wait 1 ", 7);
        wrongRecipe("wait 1 1;", 7);
        wrongRecipe("wait 1\t;", 6);
        wrongRecipe("wait 12345678;", 5);
        wrongRecipe("wait 00000001;", 5);
        wrongRecipe("wait 9999999;", 0);
        wrongRecipe("wait 0;", 0);
        wrongRecipe("  wait 1000;", 2);
        wrongRecipe("wait 1000", 9);
        wrongRecipe("until 0;", 7);
        wrongRecipe("until 0 1 1;", 10);
        wrongRecipe("until 3 1;", 0);
        wrongRecipe("until 0 1000001;", 0);
        wrongRecipe("until 2 999999;", 0);
        wrongRecipe("open 2;open 2;", 7);
        wrongRecipe("open 3;", 0);
        wrongRecipe("wait 1;open 0;", 7);
        wrongRecipe("close 0;", 0);
        wrongRecipe("close 3;", 0);
        wrongRecipe("start 0;", 0);
        wrongRecipe("start 1;", 0);
        wrongRecipe("start 2;", 0);
        wrongRecipe("stop 1;", 0);
        wrongRecipe("stop 2;", 0);
        wrongRecipe("seal 4;", 0);
        wrongRecipe("test 3 2;", 0);
        wrongRecipe("test 2 3;", 0);
        wrongRecipe("test 2 0;", 0);
        wrongRecipe("test 2 1000;", 0);
        wrongRecipe("test 0 2;", 0);
        wrongRecipe("test 2;", 6);
        wrongRecipe("stop 1;boil 1;", 0);
        wrongRecipe("boil 1;stop 1;", 0);
    }
}
