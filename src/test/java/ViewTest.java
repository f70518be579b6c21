/** Promises 19 to 36: what there is, and valves and chambers together. */
public final class ViewTest {
    private static final String BASE = "chamber 10 0 0;chamber 20 50 10;chamber 5 1 2;"
            + "pump 0 out 5 100 1000000;pump 1 0 4 10 999999 900000;pump 0 2 6 7 8 9;"
            + "valve 0 1 2 300000;valve 1 out 1 1000;valve 2 0 999 1000000;"
            + "flange 1 7;flange 1 0;flange 2 20;flange 2 5;";

    /** A chain 0 - 1 - 2 - 3 with the outside at both ends of it, a chamber 4 for itself, and a double 1 - 2. */
    private static final String CHAIN = "chamber 10 0 0;chamber 20 0 0;chamber 30 0 0;chamber 40 0 0;chamber 50 0 0;"
            + "pump 1 out 1 0 1000000;pump 3 out 2 0 1000000;"
            + "valve 0 1 1 1000000;valve 2 1 1 1000000;valve 1 2 1 1000000;valve 3 2 1 1000000;"
            + "valve 0 out 1 1000000;valve 3 out 1 1000000;";

    public static void main(String[] args) {
        counts();
        chambers();
        pumps();
        valves();
        flanges();
        rises();
        mayOpenAndStart();
        joinedChambers();
        isolation();
        ways();
        settling();
        openableAndWidest();
        Check.end();
    }

    private static void counts() {
        VacuumSequencer x = Check.system(BASE);
        Check.throwsArgument("count(-1)", () -> x.count(-1));
        Check.throwsArgument("count(8)", () -> x.count(8));
        Check.due("chambers", x.count(0), 3);
        Check.due("pumps", x.count(1), 3);
        Check.due("valves", x.count(2), 3);
        Check.due("flanges", x.count(3), 4);
        Check.due("time", x.count(4), 0);
        x.setRule(0, 0);
        x.open(0);
        x.setRule(1, 0);
        x.open(1);
        x.setOutgassing(0, 9999);
        x.start(0);
        x.pass(1);
        Check.due("pump 0 tripped at 1000999", x.count(6), 1);
        Check.due("valves before their trips", x.count(5), 0);
        x.pass(1);
        Check.due("trips of valves", x.count(5), 2);
        Check.due("trips of pumps", x.count(6), 1);
        Check.due("time", x.count(4), 2);
        Check.due("tests", x.count(7), 0);
        x.test(0, 2);
        x.test(2, 2);
        Check.due("tests", x.count(7), 2);
    }

    private static void chambers() {
        VacuumSequencer x = Check.system(BASE);
        Check.throwsIndex("chamber(-1, -1)", () -> x.chamber(-1, -1));
        Check.throwsIndex("chamber(3, 0)", () -> x.chamber(3, 0));
        Check.throwsArgument("chamber(0, -1)", () -> x.chamber(0, -1));
        Check.throwsArgument("chamber(0, 7)", () -> x.chamber(0, 7));
        int[] first = {10, 0, 0, 1000000, 0, 5, 5};
        int[] second = {20, 50, 10, 1000000, 7, 3, 2};
        int[] third = {5, 1, 2, 1000000, 25, 4, 0};
        for (int what = 0; what < 7; what++) {
            Check.due("chamber(0, " + what + ")", x.chamber(0, what), first[what]);
            Check.due("chamber(1, " + what + ")", x.chamber(1, what), second[what]);
            Check.due("chamber(2, " + what + ")", x.chamber(2, what), third[what]);
        }
        Check.throwsIndex("gas(-1)", () -> x.gas(-1));
        Check.throwsIndex("gas(3)", () -> x.gas(3));
        Check.due("gas", x.gas(1), 20000000);
        x.setOutgassing(1, 19);
        x.pass(1);
        Check.due("gas", x.gas(1), 20000019);
        Check.due("pressure truncates", x.chamber(1, 3), 1000000);
        Check.due("gas of the greatest chamber", Check.system("chamber 999 0 0;").gas(0), 999000000);
    }

    private static void pumps() {
        VacuumSequencer x = Check.system(BASE);
        Check.throwsIndex("pump(-1, -1)", () -> x.pump(-1, -1));
        Check.throwsIndex("pump(3, 0)", () -> x.pump(3, 0));
        Check.throwsArgument("pump(0, -1)", () -> x.pump(0, -1));
        Check.throwsArgument("pump(0, 8)", () -> x.pump(0, 8));
        int[] first = {0, -1, 5, 100, 1000000, -1, 0, 0};
        int[] second = {1, 0, 4, 10, 999999, 900000, 0, 0};
        int[] third = {0, 2, 6, 7, 8, 9, 0, 0};
        for (int what = 0; what < 8; what++) {
            Check.due("pump(0, " + what + ")", x.pump(0, what), first[what]);
            Check.due("pump(1, " + what + ")", x.pump(1, what), second[what]);
            Check.due("pump(2, " + what + ")", x.pump(2, what), third[what]);
        }
        x.start(0);
        Check.due("a running pump", x.pump(0, 6), 1);
        Check.due("a pump beside it", x.pump(1, 6), 0);
        x.setOutgassing(0, 100);
        x.pass(1);
        Check.due("a pump that tripped", x.pump(0, 6), 0);
        Check.due("its trips", x.pump(0, 7), 1);
    }

    private static void valves() {
        VacuumSequencer x = Check.system(BASE);
        Check.throwsIndex("valve(-1, -1)", () -> x.valve(-1, -1));
        Check.throwsIndex("valve(3, 0)", () -> x.valve(3, 0));
        Check.throwsArgument("valve(0, -1)", () -> x.valve(0, -1));
        Check.throwsArgument("valve(0, 7)", () -> x.valve(0, 7));
        x.open(1);
        x.start(0);
        x.pass(1);
        x.setOutgassing(2, 0);
        int[] first = {0, 1, 2, 300000, 0, 0, 499951};
        int[] second = {1, -1, 1, 1000, 1, 0, 1};
        int[] third = {2, 0, 999, 1000000, 0, 0, 499950};
        for (int what = 0; what < 7; what++) {
            Check.due("valve(0, " + what + ")", x.valve(0, what), first[what] + (what == 6 ? 1 : 0));
            Check.due("valve(1, " + what + ")", x.valve(1, what), second[what] + (what == 6 ? 1 : 0));
            Check.due("valve(2, " + what + ")", x.valve(2, what), third[what]);
        }
        x.setRule(1, 1);
        x.pass(1);
        Check.due("a valve that tripped", x.valve(1, 4), 0);
        Check.due("its trips", x.valve(1, 5), 1);
    }

    private static void flanges() {
        VacuumSequencer x = Check.system(BASE);
        Check.throwsIndex("flange(-1, -1)", () -> x.flange(-1, -1));
        Check.throwsIndex("flange(4, 0)", () -> x.flange(4, 0));
        Check.throwsArgument("flange(0, -1)", () -> x.flange(0, -1));
        Check.throwsArgument("flange(0, 2)", () -> x.flange(0, 2));
        int[] chambers = {1, 1, 2, 2};
        int[] leaks = {7, 0, 20, 5};
        for (int f = 0; f < 4; f++) {
            Check.due("flange(" + f + ", 0)", x.flange(f, 0), chambers[f]);
            Check.due("flange(" + f + ", 1)", x.flange(f, 1), leaks[f]);
        }
    }

    private static void rises() {
        VacuumSequencer x = Check.system(BASE);
        Check.throwsIndex("rise without tests", () -> x.rise(0, 0));
        Check.throwsIndex("riseGas without tests", () -> x.riseGas(0, false));
        x.pass(1);
        x.test(1, 4);
        x.test(0, 2);
        Check.throwsIndex("rise(-1, -1)", () -> x.rise(-1, -1));
        Check.throwsIndex("rise(2, 0)", () -> x.rise(2, 0));
        Check.throwsArgument("rise(0, -1)", () -> x.rise(0, -1));
        Check.throwsArgument("rise(0, 4)", () -> x.rise(0, 4));
        Check.throwsIndex("riseGas(-1, true)", () -> x.riseGas(-1, true));
        Check.throwsIndex("riseGas(2, true)", () -> x.riseGas(2, true));
        int[] latest = {0, 0, 7, 2};
        int[] before = {1, 1, 5, 4};
        for (int what = 0; what < 4; what++) {
            Check.due("rise(0, " + what + ")", x.rise(0, what), latest[what]);
            Check.due("rise(1, " + what + ")", x.rise(1, what), before[what]);
        }
        Check.due("the first rise 45 + 41", x.riseGas(1, false), 86);
        Check.due("the second rise 37 + 34", x.riseGas(1, true), 71);
        Check.due("no rise", x.riseGas(0, true), 0);
    }

    private static void mayOpenAndStart() {
        VacuumSequencer x = Check.system(BASE);
        Check.throwsIndex("mayOpen(-1)", () -> x.mayOpen(-1));
        Check.throwsIndex("mayOpen(3)", () -> x.mayOpen(3));
        Check.throwsIndex("mayStart(-1)", () -> x.mayStart(-1));
        Check.throwsIndex("mayStart(3)", () -> x.mayStart(3));
        Check.due("mayOpen(0)", x.mayOpen(0), 0);
        x.open(0);
        Check.due("mayOpen of an open valve", x.mayOpen(0), 1);
        x.setOutgassing(0, 9999);
        x.setRule(0, 0);
        Check.due("mayOpen at the rule", x.mayOpen(0), 1);
        x.close(0);
        x.pass(1);
        Check.due("mayOpen above the rule", x.mayOpen(0), 2);
        x.setRule(0, 997);
        Check.due("mayOpen at the rule", x.mayOpen(0), 0);
        VacuumSequencer y = Check.system(BASE);
        Check.due("mayStart(0)", y.mayStart(0), 0);
        Check.due("mayStart with two conditions not met", y.mayStart(1), 2);
        y.start(0);
        Check.due("mayStart of a running pump", y.mayStart(0), 1);
        VacuumSequencer z = Check.system("chamber 1 0 0;chamber 1 0 0;pump 0 1 1 0 1000000 999999;"
                + "pump 1 0 1 0 1000000 1000000;");
        Check.due("mayStart with too much at the exhaust", z.mayStart(0), 3);
        Check.due("mayStart at both bounds", z.mayStart(1), 0);
        z.start(1);
        z.setOutgassing(0, 1);
        z.pass(1);
        z.pass(1);
        Check.due("mayStart of a tripped pump", z.mayStart(1), 3);
    }

    private static void joinedChambers() {
        VacuumSequencer x = Check.system(CHAIN);
        Check.throwsIndex("joined(-1)", () -> x.joined(-1));
        Check.throwsIndex("joined(5)", () -> x.joined(5));
        Check.throwsIndex("isVented(-1)", () -> x.isVented(-1));
        Check.throwsIndex("isVented(5)", () -> x.isVented(5));
        Check.throwsIndex("spread(-1)", () -> x.spread(-1));
        Check.throwsIndex("spread(5)", () -> x.spread(5));
        Check.due("joined alone", x.joined(4), 16);
        Check.due("not vented", x.isVented(0), false);
        Check.due("spread alone", x.spread(4), 0);
        x.open(4);
        x.open(5);
        Check.due("not joined through the outside", x.joined(0), 1);
        Check.due("vented", x.isVented(0), true);
        Check.due("vented", x.isVented(3), true);
        Check.due("not vented", x.isVented(1), false);
        x.open(0);
        Check.due("joined", x.joined(1), 3);
        Check.due("vented through chamber 0", x.isVented(1), true);
        x.open(1);
        x.open(2);
        Check.due("joined through two valves", x.joined(0), 7);
        x.close(4);
        x.open(3);
        Check.due("joined through all", x.joined(3), 15);
        Check.due("vented through all", x.isVented(0), true);
        Check.due("joined alone still", x.joined(4), 16);
        x.close(5);
        Check.due("vented no more", x.isVented(0), false);
        x.close(0);
        x.close(1);
        x.close(2);
        x.start(0);
        x.start(1);
        x.pass(1);
        // Chamber 1 has 950000, chamber 3 has 950000 and then gives to chamber 2.
        Check.due("spread of 2 and 3", x.spread(2), 50000);
        Check.due("spread of 3 and 2", x.spread(3), 50000);
        Check.due("spread of 1 alone", x.spread(1), 0);
        x.open(0);
        Check.due("spread of 0 and 1", x.spread(0), 50000);
        Check.due("spread of 1 and 0", x.spread(1), 50000);
        Check.due("joined in two parts", x.joined(2), 12);
    }

    private static void isolation() {
        VacuumSequencer x = Check.system("chamber 1 0 0;chamber 1 0 0;chamber 1 0 0;pump 0 1 1 0 1000000 1000000;"
                + "pump 2 out 1 0 1000000;valve 1 2 1 1000000;valve 0 out 1 1000000;");
        Check.throwsIndex("isIsolated(-1)", () -> x.isIsolated(-1));
        Check.throwsIndex("isIsolated(3)", () -> x.isIsolated(3));
        Check.due("isolated", x.isIsolated(0) && x.isIsolated(1) && x.isIsolated(2), true);
        x.start(0);
        Check.due("pumped", x.isIsolated(0), false);
        Check.due("an exhaust", x.isIsolated(1), false);
        Check.due("isolated beside it", x.isIsolated(2), true);
        x.stop(0);
        x.start(1);
        Check.due("pumped to the outside", x.isIsolated(2), false);
        Check.due("isolated beside it", x.isIsolated(1), true);
        x.stop(1);
        x.open(0);
        Check.due("with an open valve", x.isIsolated(1), false);
        Check.due("at its other side", x.isIsolated(2), false);
        Check.due("isolated beside it", x.isIsolated(0), true);
        x.open(1);
        Check.due("open to the outside", x.isIsolated(0), false);
    }

    private static void ways() {
        VacuumSequencer x = Check.system(CHAIN);
        Check.throwsIndex("fewestValves(-1, -2)", () -> x.fewestValves(-1, -2));
        Check.throwsIndex("fewestValves(5, 0)", () -> x.fewestValves(5, 0));
        Check.throwsArgument("fewestValves(0, -2)", () -> x.fewestValves(0, -2));
        Check.throwsArgument("fewestValves(0, 5)", () -> x.fewestValves(0, 5));
        Check.due("to itself", x.fewestValves(4, 4), 0);
        Check.due("to the next one", x.fewestValves(1, 0), 1);
        Check.due("not through the outside", x.fewestValves(0, 3), 3);
        Check.due("back", x.fewestValves(3, 0), 3);
        Check.due("to the outside", x.fewestValves(0, -1), 1);
        Check.due("to the outside", x.fewestValves(1, -1), 2);
        Check.due("no way", x.fewestValves(4, 0), -1);
        Check.due("no way to the outside", x.fewestValves(4, -1), -1);
        x.open(0);
        Check.due("through an open valve", x.fewestValves(0, 3), 3);
        StringBuilder chain = new StringBuilder("chamber 1 0 0;".repeat(8));
        for (int c = 0; c < 7; c++) {
            chain.append("valve ").append(c).append(' ').append(c + 1).append(" 1 1;");
        }
        VacuumSequencer y = Check.system(chain + "valve 7 out 1 1;");
        Check.due("through seven valves", y.fewestValves(0, 7), 7);
        Check.due("through eight valves", y.fewestValves(0, -1), 8);
        for (int v = 7; v >= 0; v--) {
            y.open(v);
        }
        Check.due("joined through seven valves", y.joined(0), 255);
        Check.due("joined back", y.joined(7), 255);
        Check.due("vented through eight valves", y.isVented(0), true);
        VacuumSequencer z = Check.system("chamber 1 0 0;chamber 1 0 0;chamber 1 0 0;"
                + "valve 0 1 1 1;valve 1 2 1 1;valve 2 0 1 1;");
        Check.due("the shorter way", z.fewestValves(0, 2), 1);
    }

    private static void settling() {
        VacuumSequencer x = Check.system(CHAIN);
        Check.throwsIndex("settled(-1)", () -> x.settled(-1));
        Check.throwsIndex("settled(5)", () -> x.settled(5));
        Check.due("settled alone", x.settled(4), 1000000);
        x.start(0);
        x.pass(1);
        Check.due("settled alone", x.settled(1), 950000);
        x.open(0);
        x.open(2);
        x.open(4);
        // (10000000 + 19000000 + 30000000) / 60
        Check.due("settled of three", x.settled(2), 983333);
        Check.due("settled alone still", x.settled(3), 1000000);
        VacuumSequencer y = Check.system("chamber 1 1 0;chamber 2 1 0;valve 0 1 1 1000000;");
        y.pass(1);
        y.open(0);
        Check.due("settled truncates 3000002 / 3", y.settled(0), 1000000);
    }

    private static void openableAndWidest() {
        VacuumSequencer x = Check.system(CHAIN);
        Check.due("openable", x.openable(), 63);
        Check.due("widest of equals", x.widest(), 0);
        x.open(0);
        Check.due("openable without the open one", x.openable(), 62);
        Check.due("widest without the open one", x.widest(), 1);
        x.setRule(1, 0);
        x.setRule(2, 49999);
        x.close(0);
        x.start(1);
        x.pass(1);
        x.start(0);
        x.setRule(3, 0);
        // Chamber 3 has 950000.
        Check.due("openable at the rules", x.openable(), 55);
        Check.due("widest", x.widest(), 3);
        x.pass(1);
        // Chamber 1 has 950000, chamber 3 has 902500.
        Check.due("valve 1 and 2 are above their rules", x.openable(), 49);
        Check.due("widest, with the outside", x.widest(), 3);
        x.open(5);
        x.setRule(3, 1000000);
        x.open(3);
        Check.due("widest of the others", x.widest(), 0);
        x.open(0);
        Check.due("of 50000 at two the lower one", x.widest(), 1);
        x.setRule(1, 1000000);
        x.setRule(2, 1000000);
        x.open(1);
        x.open(2);
        Check.due("the last closed one", x.widest(), 4);
        x.open(4);
        Check.throwsNoSuch("widest of none", x::widest);
        Check.due("openable of none", x.openable(), 0);
        VacuumSequencer y = Check.system("chamber 1 0 0;");
        Check.throwsNoSuch("widest without valves", y::widest);
        Check.due("openable without valves", y.openable(), 0);
    }
}
