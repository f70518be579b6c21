/**
 * The edges that sections 1 to 3 name: quantities, conditions and the steps of a tick. A method for each sentence,
 * which stands above it.
 */
public final class TickEdgesTest {
    public static void main(String[] args) {
        outsideNeverChanges();
        divisionsTruncate();
        firstGas();
        nothingRunsOrIsOpenAtFirst();
        pumpAtHigh();
        pumpAtBacking();
        valveAtRule();
        closedValvesDoNotTrip();
        tripsComeFirst();
        outgassingAtItsEnd();
        leaksBelowTheOutside();
        pressureBeforeTheStep();
        leaksOfAllFlanges();
        outgassingDecays();
        decayWithoutOutgassing();
        smallerFlowBetweenChambers();
        smallerFlowToTheOutside();
        noFlowWithoutDifference();
        higherSideGives();
        valvesInOrder();
        conditionsAtThePumpsTurn();
        pumpAtLow();
        atMostTheGas();
        pumpedToTheExhaust();
        timeIncreases();
        Check.end();
    }

    /** Lets one tick pass and tells the trips in it. */
    private static int tick(VacuumSequencer x) {
        return x.pass(1);
    }

    /** Lets a pump run for one tick and stops it, unless it has tripped. */
    private static void pumpOnce(VacuumSequencer x, int pump) {
        x.start(pump);
        x.pass(1);
        if (x.pump(pump, 6) == 1) {
            x.stop(pump);
        }
    }

    /** "the outside has the pressure 1000000 and never changes". */
    private static void outsideNeverChanges() {
        VacuumSequencer x = Check.system("chamber 999 0 0;pump 0 out 999 0 1000000;valve 0 out 999 1000000;");
        for (int i = 0; i < 3; i++) {
            pumpOnce(x, 0);
            Check.due("the outside above an empty chamber", x.valve(0, 6), 1000000);
            x.open(0);
            tick(x);
            Check.due("what comes in fills the chamber", x.gas(0), 999000000);
            Check.due("the outside beside a full chamber", x.valve(0, 6), 0);
            x.close(0);
        }
    }

    /** "a chamber with the volume V and g units of gas has the pressure g / V. Every division truncates." */
    private static void divisionsTruncate() {
        VacuumSequencer x = Check.system("chamber 10 9 0;pump 0 out 10 0 1000000;");
        tick(x);
        Check.due("10000009 / 10", x.chamber(0, 3), 1000000);
        x.setOutgassing(0, 1);
        tick(x);
        Check.due("10000010 / 10", x.chamber(0, 3), 1000001);
        VacuumSequencer y = Check.system("chamber 10 0 0;pump 0 out 10 0 1000000;");
        pumpOnce(y, 0);
        Check.due("0 / 10", y.chamber(0, 3), 0);
        y.setOutgassing(0, 9);
        tick(y);
        Check.due("9 / 10", y.chamber(0, 3), 0);
        y.setOutgassing(0, 1);
        tick(y);
        Check.due("10 / 10", y.chamber(0, 3), 1);
    }

    /** "At first it has volume * 1000000 units of gas." */
    private static void firstGas() {
        VacuumSequencer x = Check.system("chamber 1 9999 1;chamber 999 0 0;");
        Check.due("volume 1", x.gas(0), 1000000);
        Check.due("volume 999", x.gas(1), 999000000);
        Check.due("pressure of volume 1", x.chamber(0, 3), 1000000);
        Check.due("pressure of volume 999", x.chamber(1, 3), 1000000);
    }

    /** "It is running or not (at first)"; "is open or closed (at first)". */
    private static void nothingRunsOrIsOpenAtFirst() {
        VacuumSequencer x = Check.system("chamber 1 0 0;" + "pump 0 out 1 0 1000000;".repeat(6)
                + "valve 0 out 1 1000000;".repeat(10));
        for (int p = 0; p < 6; p++) {
            Check.due("pump " + p, x.pump(p, 6), 0);
        }
        for (int v = 0; v < 10; v++) {
            Check.due("valve " + v, x.valve(v, 4), 0);
        }
        tick(x);
        Check.due("and nothing flows", x.gas(0), 1000000);
    }

    /** "the pressure of its chamber is at most high": at high, and one above it. */
    private static void pumpAtHigh() {
        VacuumSequencer x = Check.system("chamber 2 0 0;pump 0 out 2 500000 1000000;pump 0 out 1 500000 500000;"
                + "pump 0 out 1 499999 499999;");
        pumpOnce(x, 0);
        Check.due("pressure", x.chamber(0, 3), 500000);
        Check.due("start at high", x.start(1), 500000);
        Check.throwsState("start one above high", () -> x.start(2));
        Check.due("a tick at high", tick(x), 0);
        x.setOutgassing(0, 1);
        Check.due("a tick at high with a unit more, which the pressure does not show", tick(x), 0);
        Check.due("a tick one above high", tick(x), 1);
        Check.due("the pump has stopped", x.pump(1, 6), 0);
        Check.due("its trips", x.pump(1, 7), 1);
        Check.due("nothing was pumped by then", x.gas(0), 1000002);
        Check.due("no trip of a stopped pump", tick(x), 0);
    }

    /** "if it has an exhaust, the pressure of that is at most the backing pressure": at it, and one above it. */
    private static void pumpAtBacking() {
        VacuumSequencer x = Check.system("chamber 2 0 0;chamber 2 0 0;pump 1 out 2 500000 1000000;"
                + "pump 0 1 1 1000000 1000000 500000;pump 0 1 1 1000000 1000000 499999;pump 0 1 1 0 0 499999;");
        pumpOnce(x, 0);
        Check.due("start at the backing pressure", x.start(1), 1000000);
        Check.throwsState("start one above the backing pressure", () -> x.start(2));
        Check.due("both too high: the lower number", x.mayStart(3), 2);
        Check.due("a tick at the backing pressure", tick(x), 0);
        x.setOutgassing(1, 1);
        Check.due("a tick with a unit more, which the pressure does not show", tick(x), 0);
        Check.due("a tick one above the backing pressure", tick(x), 1);
        Check.due("its trips", x.pump(1, 7), 1);
        Check.due("nothing was pumped", x.gas(0), 2000000);
    }

    /** "Its condition is that the pressures of both sides differ by at most the rule": with either side the higher. */
    private static void valveAtRule() {
        VacuumSequencer x = Check.system("chamber 1 0 0;chamber 1 0 0;valve 0 1 1 0;valve 1 0 1 0;valve 0 out 1 0;");
        for (int v = 0; v < 3; v++) {
            Check.due("open with the rule 0", x.open(v), 0);
        }
        Check.due("no trip with the rule 0", tick(x), 0);
        for (int v = 0; v < 3; v++) {
            x.close(v);
        }
        x.setOutgassing(0, 7);
        tick(x);
        x.setOutgassing(0, 0);
        for (int v = 0; v < 3; v++) {
            int valve = v;
            x.setRule(v, 6);
            Check.due("mayOpen of valve " + v + " above the rule", x.mayOpen(v), 2);
            Check.throwsState("open of valve " + v + " above the rule", () -> x.open(valve));
            x.setRule(v, 7);
            Check.due("open of valve " + v + " at the rule", x.open(v), 7);
            Check.due("a tick of valve " + v + " at the rule", x.tripsIn(1), 0);
            x.setRule(v, 6);
            Check.due("a tick of valve " + v + " above the rule", x.tripsIn(1), 1);
            x.close(v);
        }
    }

    /** "Each open valve ... whose condition is not met closes (a trip)". */
    private static void closedValvesDoNotTrip() {
        VacuumSequencer x = Check.system("chamber 1 9 0;valve 0 out 1 0;valve 0 out 1 1000000;");
        tick(x);
        Check.due("a closed valve above its rule", tick(x), 0);
        Check.due("its trips", x.valve(0, 5), 0);
        x.open(1);
        x.setRule(1, 0);
        Check.due("an open one", tick(x), 1);
        Check.due("is closed then", x.valve(1, 4), 0);
        Check.due("and does not trip again", tick(x), 0);
        Check.due("its trips", x.valve(1, 5), 1);
        Check.due("trips of valves", x.count(5), 1);
    }

    /** The trips are step 1: what outgasses in a tick shows in the next one, and a tripped valve lets none by. */
    private static void tripsComeFirst() {
        VacuumSequencer x = Check.system("chamber 1 10 0;chamber 18 0 0;valve 0 1 1 9;");
        x.open(0);
        Check.due("the first tick", tick(x), 0);
        // 10 more than the other side: 10 * 1 * 18 / 19 = 9 have gone.
        Check.due("gas after it", x.gas(0), 1000001);
        x.setOutgassing(0, 0);
        x.setRule(0, 0);
        Check.due("the second tick", tick(x), 1);
        Check.due("gas after it", x.gas(0), 1000001);
        Check.due("and of the other side", x.gas(1), 18000009);
    }

    /** "if it is below 1000000000, the chamber gets its outgassing": from 999999999, and from 1000000000. */
    private static void outgassingAtItsEnd() {
        for (int missing = 0; missing <= 1; missing++) {
            VacuumSequencer x = Check.system("chamber 999 0 0;chamber 1 0 0;pump 0 1 999 0 1000000 1000000;"
                    + "pump 1 out 1 999999 1000000;");
            if (missing == 1) {
                pumpOnce(x, 1);
            }
            pumpOnce(x, 0);
            int full = 1000000000 - missing;
            Check.due("the pressure", x.chamber(1, 3), full);
            x.setOutgassing(1, 9999);
            tick(x);
            Check.due("outgassing at " + full, x.gas(1), full + missing * 9999);
            tick(x);
            Check.due("no more of it", x.gas(1), full + missing * 9999);
        }
    }

    /** "if it is below 1000000, it also gets the leaks": from 999999, from 1000000, and what truncates to them. */
    private static void leaksBelowTheOutside() {
        VacuumSequencer x = Check.system("chamber 10 0 0;chamber 10 0 0;pump 0 out 1 999999 1000000;flange 0 9;"
                + "flange 1 9;");
        pumpOnce(x, 0);
        Check.due("gas", x.gas(0), 9999999);
        tick(x);
        Check.due("a leak at 999999", x.gas(0), 10000008);
        tick(x);
        Check.due("no leak at 1000000", x.gas(0), 10000008);
        Check.due("no leak of the other chamber", x.gas(1), 10000000);
    }

    /** "by its pressure before this step": outgassing does not keep the leak away, nor does the leak the outgassing. */
    private static void pressureBeforeTheStep() {
        VacuumSequencer x = Check.system("chamber 1 0 0;chamber 1 0 0;pump 0 out 1 999999 1000000;flange 0 7;");
        pumpOnce(x, 0);
        x.setOutgassing(0, 5);
        tick(x);
        Check.due("both from 999999", x.gas(0), 1000011);
        tick(x);
        Check.due("outgassing alone from 1000011", x.gas(0), 1000016);
    }

    /** "the leaks of all its flanges": none, and 24 of 9999. */
    private static void leaksOfAllFlanges() {
        VacuumSequencer x = Check.system("chamber 1 0 0;chamber 1 0 0;pump 0 out 1 0 1000000;pump 1 out 1 0 1000000;"
                + "flange 1 9999;".repeat(24));
        x.start(0);
        x.start(1);
        tick(x);
        x.stop(0);
        x.stop(1);
        tick(x);
        Check.due("no flanges", x.gas(0), 0);
        Check.due("24 flanges", x.gas(1), 24 * 9999);
    }

    /** "if the decay is above 0, the outgassing becomes less by outgassing / decay". */
    private static void outgassingDecays() {
        VacuumSequencer x = Check.system("chamber 1 9999 0;chamber 1 9999 1;chamber 1 9999 999;chamber 1 999 999;"
                + "chamber 1 998 999;chamber 1 0 1;");
        int[] due = {9999, 0, 9989, 998, 998, 0};
        tick(x);
        for (int c = 0; c < 6; c++) {
            Check.due("outgassing of chamber " + c, x.chamber(c, 1), due[c]);
        }
        Check.due("gas gets the outgassing before its decay", x.gas(1), 1009999);
        tick(x);
        Check.due("and then that after it", x.gas(2), 1000000 + 9999 + 9989);
        Check.due("999, and then 998 for good", x.gas(3), 1000000 + 999 + 998);
    }

    /** "(whether the chamber got it or not)". */
    private static void decayWithoutOutgassing() {
        VacuumSequencer x = Check.system("chamber 999 0 0;chamber 1 0 10;pump 0 1 999 0 1000000 1000000;");
        pumpOnce(x, 0);
        x.setOutgassing(1, 100);
        tick(x);
        Check.due("it got none", x.gas(1), 1000000000);
        Check.due("outgassing 100 - 10", x.chamber(1, 1), 90);
    }

    /** "the smaller one of conductance * d and d * V * W / (V + W)": by pressures of 999000 and 1000000. */
    private static void smallerFlowBetweenChambers() {
        // V * W / (V + W) is 2: a conductance of 1 is smaller, one of 2 is the same, one of 3 is greater.
        int[] due = {1000, 2000, 2000};
        for (int conductance = 1; conductance <= 3; conductance++) {
            VacuumSequencer x = Check.system("chamber 3 0 0;chamber 6 0 0;pump 0 out 3 999000 1000000;"
                    + "valve 0 1 " + conductance + " 1000000;valve 1 0 " + conductance + " 1000000;");
            pumpOnce(x, 0);
            Check.due("gas", x.gas(0), 2997000);
            for (int v = 0; v < 2; v++) {
                x.open(v);
                tick(x);
                Check.due("to the lower side", x.gas(0), 2997000 + due[conductance - 1]);
                Check.due("from the higher side", x.gas(1), 6000000 - due[conductance - 1]);
                x.undo();
                x.undo();
            }
        }
        // d * 1 * 1 / 2 for a d of 1, 2 and 3.
        for (int d = 1; d <= 3; d++) {
            VacuumSequencer x = Check.system("chamber 1 0 0;chamber 1 0 0;pump 0 out 1 " + (1000000 - d)
                    + " 1000000;valve 0 1 999 1000000;");
            pumpOnce(x, 0);
            x.open(0);
            tick(x);
            Check.due("half of " + d, x.gas(0), 1000000 - d + d / 2);
            Check.due("the other half of " + d, x.gas(1), 1000000 - d / 2);
        }
    }

    /** "if one side is the outside, it is the smaller one of conductance * d and d * V". */
    private static void smallerFlowToTheOutside() {
        int[] due = {1000, 2000, 2000};
        for (int conductance = 1; conductance <= 3; conductance++) {
            VacuumSequencer x = Check.system("chamber 2 0 0;pump 0 out 2 999000 1000000;valve 0 out " + conductance
                    + " 1000000;");
            pumpOnce(x, 0);
            x.open(0);
            tick(x);
            Check.due("from the outside", x.gas(0), 1998000 + due[conductance - 1]);
            VacuumSequencer y = Check.system("chamber 2 2000 1;valve 0 out " + conductance + " 1000000;");
            y.open(0);
            tick(y);
            Check.due("to the outside", y.gas(0), 2002000 - due[conductance - 1]);
        }
    }

    /** A difference of 0 lets nothing through, though the sides differ by a unit less than a pressure. */
    private static void noFlowWithoutDifference() {
        VacuumSequencer x = Check.system("chamber 2 1 1;chamber 2 0 0;valve 0 1 999 1000000;valve 0 out 999 1000000;");
        x.open(0);
        x.open(1);
        tick(x);
        Check.due("gas that stays", x.gas(0), 2000001);
        Check.due("and that of the other side", x.gas(1), 2000000);
    }

    /** "From the side with the higher pressure to the other one": from either side, and from and to the outside. */
    private static void higherSideGives() {
        VacuumSequencer x = Check.system("chamber 1 0 0;chamber 1 0 0;pump 0 out 1 999990 1000000;"
                + "valve 0 1 9 1000000;valve 1 0 9 1000000;valve 0 out 9 1000000;");
        pumpOnce(x, 0);
        x.open(2);
        tick(x);
        Check.due("from the outside", x.gas(0), 1000000);
        x.setOutgassing(0, 10);
        tick(x);
        Check.due("to the outside", x.gas(0), 1000000);
        x.close(2);
        tick(x);
        x.setOutgassing(0, 0);
        for (int v = 0; v < 2; v++) {
            x.open(v);
            tick(x);
            Check.due("from chamber 0 through valve " + v, x.gas(0), 1000005);
            Check.due("to chamber 1 through valve " + v, x.gas(1), 1000005);
            x.undo();
            x.undo();
        }
    }

    /** "For each open valve, by ascending number": a later one finds what the earlier ones have moved. */
    private static void valvesInOrder() {
        VacuumSequencer x = Check.system("chamber 1 8 1;chamber 1 0 0;chamber 1 0 0;valve 0 1 9 1000000;"
                + "valve 1 2 9 1000000;");
        x.open(0);
        x.open(1);
        tick(x);
        Check.due("half of 8 is left", x.gas(0), 1000004);
        Check.due("half of 4 is left", x.gas(1), 1000002);
        Check.due("and half of 4 has come", x.gas(2), 1000002);
        VacuumSequencer y = Check.system("chamber 1 8 1;chamber 1 0 0;chamber 1 0 0;valve 1 2 9 1000000;"
                + "valve 0 1 9 1000000;");
        y.open(0);
        y.open(1);
        tick(y);
        Check.due("nothing has come to chamber 2 yet", y.gas(2), 1000000);
        Check.due("but to chamber 1", y.gas(1), 1000004);
    }

    /** "For each running pump, by ascending number: if its conditions are not met, it stops (a trip)". */
    private static void conditionsAtThePumpsTurn() {
        String system = "chamber 1 0 0;chamber 1 0 0;chamber 1 0 0;pump 0 2 1 999999 1000000 1000000;"
                + "pump 1 2 1 0 1000000 ";
        VacuumSequencer x = Check.system(system + "1000000;");
        x.start(0);
        x.start(1);
        Check.due("pump 1 finds what pump 0 has pumped", tick(x), 1);
        Check.due("pump 0 runs", x.pump(0, 6), 1);
        Check.due("pump 1 has tripped", x.pump(1, 7), 1);
        Check.due("gas of its chamber", x.gas(1), 1000000);
        Check.due("now pump 0 trips, too", tick(x), 1);
        VacuumSequencer y = Check.system("chamber 1 0 0;chamber 1 0 0;chamber 1 1 1;pump 1 out 1 0 1000000;"
                + "pump 2 out 1 1000000 1000000;");
        y.start(0);
        y.start(1);
        Check.due("outgassing of the same tick", tick(y), 1);
        Check.due("the pump above high", y.pump(1, 6), 0);
        Check.due("the other one", y.gas(1), 0);
    }

    /** "if the pressure of its chamber is above low": at low, and one above it. */
    private static void pumpAtLow() {
        VacuumSequencer x = Check.system("chamber 5 0 0;pump 0 out 7 1000000 1000000;pump 0 out 7 999999 1000000;"
                + "pump 0 out 999 0 1000000;pump 0 out 999 0 0;");
        pumpOnce(x, 0);
        Check.due("at low", x.gas(0), 5000000);
        pumpOnce(x, 1);
        Check.due("one above low", x.gas(0), 5000000 - 7);
        Check.due("the pressure truncates", x.chamber(0, 3), 999998);
        Check.due("start below low", x.start(0), 999998);
        Check.due("no trip below low", tick(x), 0);
        Check.due("nothing is pumped below low", x.gas(0), 5000000 - 7);
        x.stop(0);
        pumpOnce(x, 2);
        Check.due("start at 0", x.start(3), 0);
        Check.due("no trip at 0", tick(x), 0);
        Check.due("nothing is pumped of nothing", x.gas(0), 0);
    }

    /** "but at most the gas of the chamber": a little less than the gas, the gas, and a little more. */
    private static void atMostTheGas() {
        int[] due = {1000000, 0, 0};
        for (int i = 0; i < 3; i++) {
            VacuumSequencer x = Check.system("chamber 10 0 0;pump 0 out " + (9 + i) + " 0 1000000;");
            pumpOnce(x, 0);
            Check.due("gas after a speed of " + (9 + i), x.gas(0), due[i]);
        }
        VacuumSequencer y = Check.system("chamber 10 0 0;chamber 1 0 0;pump 0 1 11 0 1000000 1000000;");
        pumpOnce(y, 0);
        Check.due("the exhaust gets no more than the gas", y.gas(1), 11000000);
        VacuumSequencer z = Check.system("chamber 10 9 1;pump 0 out 10 0 1000000;");
        pumpOnce(z, 0);
        Check.due("what the pressure does not show stays", z.gas(0), 9);
    }

    /** "go from its chamber to its exhaust or to the outside". */
    private static void pumpedToTheExhaust() {
        VacuumSequencer x = Check.system("chamber 3 0 0;chamber 3 0 0;pump 0 1 1 0 1000000 1000000;"
                + "pump 1 out 1 0 1000000;");
        x.start(0);
        tick(x);
        Check.due("from its chamber", x.gas(0), 2000000);
        Check.due("to its exhaust", x.gas(1), 4000000);
        Check.throwsState("the next pump finds it full", () -> x.start(1));
        x.undo();
        x.undo();
        x.start(1);
        tick(x);
        Check.due("to the outside", x.gas(0) + x.gas(1), 5000000);
    }

    /** "After that the time increases by 1." */
    private static void timeIncreases() {
        VacuumSequencer x = Check.system("chamber 1 0 0;");
        Check.due("at first", x.count(4), 0);
        tick(x);
        Check.due("after one", x.count(4), 1);
        x.pass(999);
        Check.due("after 1000", x.count(4), 1000);
        Check.due("none", x.passUntil(0, 1000000), 0);
        Check.due("after none", x.count(4), 1000);
        x.test(0, 998);
        Check.due("after 1998", x.count(4), 1998);
    }
}
