/** Promises 48 to 51: the report and undo. */
public final class ReportAndUndoTest {
    private static final String BASE = "chamber 10 0 0;chamber 20 50 10;chamber 5 0 0;"
            + "pump 0 out 5 100 1000000;pump 1 0 4 10 1000000 1000000;pump 0 out 1 0 1000000;"
            + "valve 0 1 2 300000;valve 1 out 1 1000;valve 2 0 999 1000000;flange 1 7;flange 2 5;";

    public static void main(String[] args) {
        reports();
        longReports();
        undoOfEach();
        undoDepths();
        undoAfterUndo();
        undoOfTheLastParts();
        undoLeavesTexts();
        Check.end();
    }

    private static void reports() {
        VacuumSequencer x = new VacuumSequencer();
        Check.due("a report without parts", x.writeReport(), 0);
        Check.throwsIndex("its byte", () -> x.reportByte(0));
        Check.put(x, BASE);
        x.parseSystem();
        Check.throwsIndex("parseSystem writes no report", () -> x.reportByte(0));
        String plain = "chamber 0 1000000\nchamber 1 1000000\nchamber 2 1000000\n";
        Check.due("report", Check.report(x), plain);
        x.open(2);
        x.open(0);
        x.open(1);
        x.start(2);
        x.start(0);
        x.start(1);
        String full = "chamber 0 1000000 v0 v2 p0 p2\nchamber 1 1000000 v0 v1 p1\nchamber 2 1000000 v2\n";
        Check.due("byte of the old report", x.reportByte(17), '\n');
        Check.throwsIndex("byte behind the old report", () -> x.reportByte(plain.length()));
        Check.due("report", Check.report(x), full);
        Check.throwsIndex("reportByte(-1)", () -> x.reportByte(-1));
        Check.throwsIndex("reportByte(length)", () -> x.reportByte(full.length()));
        Check.throwsIndex("reportByte(MAX)", () -> x.reportByte(Integer.MAX_VALUE));
        x.close(0);
        x.stop(2);
        x.undo();
        Check.due("undo leaves the report", x.reportByte(18), 'v');
        x.undo();
        Check.due("a report is no change", x.undoDepth(), 6);
        x.pass(1);
        Check.due("a shorter report", Check.report(x), "chamber 0 " + x.chamber(0, 3) + " v0 v2 p0 p2\nchamber 1 "
                + x.chamber(1, 3) + " v0 v1\nchamber 2 " + x.chamber(2, 3) + " v2\n");
    }

    private static void longReports() {
        VacuumSequencer x = Check.system("chamber 999 0 0;chamber 1 0 0;pump 0 1 999 0 1000000 1000000;");
        x.start(0);
        x.pass(1);
        Check.due("the pressures 0 and 1000000000", Check.report(x), "chamber 0 0 p0\nchamber 1 1000000000\n");
        StringBuilder text = new StringBuilder("chamber 1 0 0;".repeat(8) + "pump 3 out 1 1 1000000;".repeat(6));
        for (int v = 0; v < 10; v++) {
            text.append("valve ").append(v % 8).append(' ').append((v + 1) % 8).append(" 1 0;");
        }
        VacuumSequencer y = Check.system(text.toString());
        for (int v = 0; v < 10; v++) {
            y.open(v);
        }
        for (int p = 0; p < 6; p++) {
            y.start(p);
        }
        Check.due("the longest report", Check.report(y), "chamber 0 1000000 v0 v7 v8\n"
                + "chamber 1 1000000 v0 v1 v8 v9\nchamber 2 1000000 v1 v2 v9\n"
                + "chamber 3 1000000 v2 v3 p0 p1 p2 p3 p4 p5\nchamber 4 1000000 v3 v4\nchamber 5 1000000 v4 v5\n"
                + "chamber 6 1000000 v5 v6\nchamber 7 1000000 v6 v7\n");
        VacuumSequencer z = Check.system("chamber 10 0 0;pump 0 out 9 109999 1000000;pump 0 out 1 0 1000000;");
        z.start(0);
        z.passUntil(0, 109999);
        Check.due("a pressure of six digits", Check.report(z), "chamber 0 109999 p0\n");
        z.start(1);
        z.stop(0);
        z.passUntil(0, 10);
        Check.due("a small pressure", Check.report(z), "chamber 0 " + z.chamber(0, 3) + " p1\n");
    }

    /** The change after a past, which has fewer than ten changes: an object each for what is asked at length. */
    private static void undoOfOne(String what, Check.Deed past, Check.Deed change) {
        VacuumSequencer x = Check.after(past);
        int depth = x.undoDepth();
        change.on(x);
        Check.due("undoDepth after " + what, x.undoDepth(), depth + 1);
        Check.due("undo of " + what, x.undo(), depth);
        Check.due("what undo of " + what + " brings back", Check.state(x), Check.state(Check.after(past)));
        VacuumSequencer again = Check.after(past, change, VacuumSequencer::undo, change);
        Check.due(what + " again", Check.state(again), Check.state(Check.after(past, change)));
    }

    private static void undoOfEach() {
        Check.Deed system = Check.reading(BASE);
        undoOfOne("open", system, x -> x.open(0));
        undoOfOne("start", system, x -> x.start(0));
        Check.Deed busy = x -> {
            system.on(x);
            x.open(0);
            x.start(0);
        };
        undoOfOne("close", busy, x -> x.close(0));
        undoOfOne("stop", busy, x -> x.stop(0));
        undoOfOne("pass with trips", busy, x -> x.pass(3));
        undoOfOne("passUntil", busy, x -> x.passUntil(0, 900000));
        undoOfOne("passUntil without a tick", busy, x -> x.passUntil(0, 1000000));
        undoOfOne("seal", busy, x -> x.seal(0));
        undoOfOne("setLeak", busy, x -> x.setLeak(1, 99));
        undoOfOne("setOutgassing", busy, x -> x.setOutgassing(1, 99));
        undoOfOne("setRule", busy, x -> x.setRule(1, 99));
        undoOfOne("test", busy, x -> x.test(2, 4));
        undoOfOne("runRecipe", busy, x -> Check.recipe(x, "seal 0;wait 9;test 2 2;open 1;"));
        undoOfOne("an empty runRecipe", busy, x -> Check.recipe(x, ""));
        Check.Deed tested = x -> {
            busy.on(x);
            x.test(2, 2);
        };
        undoOfOne("a second test", tested, x -> x.test(2, 6));
    }

    private static void undoDepths() {
        VacuumSequencer x = Check.system(BASE);
        Check.throwsState("undo of nothing", x::undo);
        Check.due("undoDepth", x.undoDepth(), 0);
        for (int i = 1; i <= 23; i++) {
            x.setOutgassing(0, i);
            Check.due("undoDepth after " + i, x.undoDepth(), Math.min(i, 10));
        }
        for (int i = 1; i <= 10; i++) {
            Check.due("undo " + i, x.undo(), 10 - i);
            Check.due("outgassing after undo " + i, x.chamber(0, 1), 23 - i);
            Check.due("undoDepth after undo " + i, x.undoDepth(), 10 - i);
        }
        Check.throwsState("undo of the eleventh", x::undo);
        Check.due("outgassing after it", x.chamber(0, 1), 13);
        Check.due("setting what is already", x.setOutgassing(0, 13), 13);
        Check.due("is a change", x.undoDepth(), 1);
    }

    private static void undoAfterUndo() {
        VacuumSequencer x = Check.system(BASE);
        for (int i = 1; i <= 8; i++) {
            x.setLeak(0, 100 + i);
        }
        x.undo();
        x.undo();
        x.setLeak(0, 200);
        x.setLeak(0, 201);
        x.setLeak(0, 202);
        Check.throwsArgument("a call that throws", () -> x.setLeak(0, -1));
        Check.due("undoDepth", x.undoDepth(), 9);
        int[] due = {201, 200, 106, 105, 104, 103, 102, 101, 7};
        for (int leak : due) {
            x.undo();
            Check.due("leak", x.flange(0, 1), leak);
        }
        Check.throwsState("undo behind the first", x::undo);
    }

    /** The parts with the highest numbers that there can be. */
    private static void undoOfTheLastParts() {
        Check.Deed system = Check.reading("chamber 1 0 0;".repeat(7) + "chamber 10 50 10;"
                + "pump 0 out 1 1 1;".repeat(5) + "pump 7 6 2 4 1000000 1000000;"
                + "valve 0 1 1 1;".repeat(9) + "valve 6 7 3 70;" + "flange 0 1;".repeat(23) + "flange 7 99;");
        lastParts(Check.after(system));
        undoOfOne("start of the last", system, x -> x.start(5));
        undoOfOne("open of the last", system, x -> x.open(9));
        Check.Deed busy = x -> {
            system.on(x);
            x.start(5);
            x.setRule(9, 0);
            x.setOutgassing(7, 49);
            x.setLeak(23, 98);
            x.open(9);
        };
        undoOfOne("a pass with trips of the last", busy, x -> x.pass(3));
        VacuumSequencer y = Check.after(busy);
        Check.due("trips", y.tripsIn(3), 2);
        y.pass(3);
        Check.due("trips of the last pump", y.pump(5, 7), 1);
        Check.due("trips of the last valve", y.valve(9, 5), 1);
        Check.Deed tripped = x -> {
            busy.on(x);
            x.pass(3);
        };
        undoOfOne("a change after trips", tripped, x -> x.setRule(9, 5));
        undoOfOne("a test of the last", tripped, x -> x.test(7, 2));
        undoOfOne("a seal of the last", tripped, x -> x.seal(23));
    }

    private static void lastParts(VacuumSequencer x) {
        int[] pump = {7, 6, 2, 4, 1000000, 1000000, 0, 0};
        for (int what = 0; what < 8; what++) {
            Check.due("the last pump, " + what, x.pump(5, what), pump[what]);
        }
        int[] valve = {6, 7, 3, 70, 0, 0, 0};
        for (int what = 0; what < 7; what++) {
            Check.due("the last valve, " + what, x.valve(9, what), valve[what]);
        }
        int[] chamber = {10, 50, 10, 1000000, 99, 512, 32};
        for (int what = 0; what < 7; what++) {
            Check.due("the last chamber, " + what, x.chamber(7, what), chamber[what]);
        }
        Check.due("the last flange", x.flange(23, 0) * 100 + x.flange(23, 1), 799);
    }

    private static void undoLeavesTexts() {
        VacuumSequencer x = Check.system(BASE);
        x.pass(1);
        Check.put(x, "wait 5;");
        x.undo();
        Check.due("the buffer after undo", x.truncateText(7), 7);
        Check.due("its recipe", x.runRecipe(), 1);
        Check.due("time", x.count(4), 5);
        Check.due("truncateText is no change", x.undoDepth(), 1);
    }
}
