/** Promises 1 to 6: a new object, the text buffer and the system text. */
public final class TextTest {
    private static final String ONE = "chamber 1 0 0;";
    private static final String TWO = "chamber 1 0 0;chamber 2 0 0;";

    public static void main(String[] args) {
        newObject();
        appending();
        truncating();
        correctTexts();
        wrongChambers();
        wrongPumps();
        wrongValvesAndFlanges();
        tooMany();
        wrongTextKeepsAll();
        newSystemReplacesAll();
        Check.end();
    }

    private static void newObject() {
        VacuumSequencer x = new VacuumSequencer();
        for (int what = 0; what < 8; what++) {
            Check.due("count " + what + " of a new object", x.count(what), 0);
        }
        Check.due("NONE", VacuumSequencer.NONE, -1);
        Check.due("errorCode of a new object", x.errorCode(), 0);
        Check.due("errorPosition of a new object", x.errorPosition(), -1);
        Check.due("undoDepth of a new object", x.undoDepth(), 0);
        Check.throwsArgument("truncateText(1) of a new object", () -> x.truncateText(1));
        Check.throwsIndex("gas of a new object", () -> x.gas(0));
        Check.throwsIndex("pump of a new object", () -> x.pump(0, 0));
        Check.throwsIndex("valve of a new object", () -> x.valve(0, 0));
        Check.throwsIndex("flange of a new object", () -> x.flange(0, 0));
        Check.throwsIndex("reportByte of a new object", () -> x.reportByte(0));
        Check.throwsNoSuch("worstFlange of a new object", x::worstFlange);
    }

    private static void appending() {
        VacuumSequencer x = new VacuumSequencer();
        Check.due("appendText", x.appendText(0x6368616D, 0x62657220, 0x37202038, 0x20393B20, 0x20202020), 20);
        Check.due("parseSystem of four bytes a word", x.parseSystem(), 1);
        Check.due("its volume", x.chamber(0, 0), 7);
        Check.due("its outgassing", x.chamber(0, 1), 8);
        Check.due("its decay", x.chamber(0, 2), 9);
        x.appendText(0x20202020, 0x20202020, 0x20202020, 0x20202020, 0x202020FF);
        x.parseSystem();
        Check.due("position of a byte 255", x.errorPosition(), 19);
        x.appendText(0x80202020, 0, 0, 0, 0);
        x.parseSystem();
        Check.due("position of a byte 128", x.errorPosition(), 0);
        for (int i = 1; i <= 45; i++) {
            Check.due("appendText " + i, x.appendText(0, 0, 0, 0, 0), 20 * i);
        }
        Check.throwsState("appendText above 900", () -> x.appendText(0, 0, 0, 0, 0));
        Check.due("length after it", x.truncateText(900), 900);
        x.truncateText(881);
        Check.throwsState("appendText to 901", () -> x.appendText(0, 0, 0, 0, 0));
        x.truncateText(880);
        Check.due("appendText to 900", x.appendText(0, 0, 0, 0, 0), 900);
    }

    private static void truncating() {
        VacuumSequencer x = new VacuumSequencer();
        Check.due("truncateText(0) of nothing", x.truncateText(0), 0);
        Check.throwsArgument("truncateText(-1)", () -> x.truncateText(-1));
        Check.put(x, "chamber 1 0 0;chamber 2 0 0;");
        Check.throwsArgument("truncateText(29) of 28", () -> x.truncateText(29));
        Check.throwsArgument("truncateText(MAX)", () -> x.truncateText(Integer.MAX_VALUE));
        Check.throwsArgument("truncateText(MIN)", () -> x.truncateText(Integer.MIN_VALUE));
        Check.due("truncateText to its length", x.truncateText(28), 28);
        Check.due("truncateText(14)", x.truncateText(14), 14);
        Check.due("parseSystem of what is left", x.parseSystem(), 1);
        Check.throwsArgument("buffer after parseSystem", () -> x.truncateText(1));
        Check.due("undoDepth after truncating", x.undoDepth(), 0);
    }

    private static void correct(String text, int chambers) {
        VacuumSequencer x = new VacuumSequencer();
        Check.put(x, text);
        Check.due("parseSystem of " + text, x.parseSystem(), chambers);
        Check.due("errorCode of " + text, x.errorCode(), 0);
        Check.due("errorPosition of " + text, x.errorPosition(), -1);
    }

    private static void correctTexts() {
        correct(ONE, 1);
        correct("\n chamber 1 0 0 ;\n", 1);
        correct("chamber999 9999 999;", 1);
        correct("chamber 0000001 0000000 0;", 1);
        correct(TWO + "valve 0 1 1 0;", 2);
        correct(TWO + "valve 1 0 999 1000000;", 2);
        correct(TWO + "flange 1 9999;", 2);
        correct(TWO + "pump 0 1 1 0 0 0;", 2);
        correct(TWO + "pump0out 999 1000000 1000000;", 2);
        correct(TWO + "pump 1 0 999 5 5 1000000;valve 1 out 1 1;flange 0 0;", 2);
        correct(ONE.repeat(8) + "pump 7 out 1 1 1;".repeat(6) + "valve 7 6 1 1;".repeat(10)
                + "flange 7 1;".repeat(24), 8);
    }

    private static void wrong(String before, String text, int code, int position) {
        VacuumSequencer x = new VacuumSequencer();
        Check.put(x, before + text);
        Check.due("parseSystem of " + before + text, x.parseSystem(), -1);
        Check.due("errorCode of " + before + text, x.errorCode(), code);
        Check.due("errorPosition of " + before + text, x.errorPosition(), before.length() + position);
        Check.due("chambers after " + before + text, x.count(0), 0);
    }

    private static void wrongChambers() {
        wrong("", "", 1, 0);
        wrong("", "  \n", 1, 3);
        wrong("", ";", 1, 0);
        wrong("", "5", 1, 0);
        wrong("", "chamber", 1, 7);
        wrong("", "chamber  ", 1, 9);
        wrong("", "chamber ;", 1, 8);
        wrong("", "chambers 1 0 0;", 1, 0);
        wrong("", "chambe 1 0 0;", 1, 0);
        wrong("", "Chamber 1 0 0;", 1, 0);
        wrong("", "cHamber 1 0 0;", 1, 0);
        wrong("", "chambeR 1 0 0;", 1, 0);
        wrong("", "thamber 1 0 0;", 1, 0);
        wrong("", "chamberz 1 0 0;", 1, 0);
        wrong("", "chambera 1 0 0;", 1, 0);
        wrong("", "chamber\t1 0 0;", 1, 7);
        wrong("", "chamber -1 0 0;", 1, 8);
        wrong("", "chamber {1 0 0;", 1, 8);
        wrong("", "chamber `1 0 0;", 1, 8);
        wrong("", "chamber /1 0 0;", 1, 8);
        wrong("", "chamber :1 0 0;", 1, 8);
        wrong("", "chamber\0 1 0 0;", 1, 7);
        wrong("", "chamber 1 0 0\r;", 1, 13);
        wrong("", "chamber 1 0 0,", 1, 13);
        wrong("", "chamber out 0 0;", 1, 8);
        wrong("", "chamber 0 0 0;", 2, 8);
        wrong("", "chamber 1000 0 0;", 2, 8);
        wrong("", "chamber 1 10000 0;", 2, 10);
        wrong("", "chamber 1 0 1000;", 2, 12);
        wrong("", "chamber 00000001 0 0;", 2, 8);
        wrong("", "chamber 99999999999999999999 0 0;", 2, 8);
        wrong("", "chamber 4294967297 0 0;", 2, 8);
        wrong("", "chamber 1 0 0", 1, 13);
        wrong("", "chamber 1 0 0 ", 1, 14);
        wrong("", "chamber 1 0 0 0;", 1, 14);
        wrong("", "chamber 1 0;", 1, 11);
        wrong(ONE, ";", 1, 0);
        wrong(ONE, " x", 1, 1);
        wrong(ONE, "out", 1, 0);
        wrong(ONE, "1", 1, 0);
        wrong(ONE, "\u00e9", 1, 0);
    }

    private static void wrongPumps() {
        wrong("", "pump 0 out 1 1 1;", 1, 0);
        wrong(ONE, "pump 1 out 1 1 1;", 2, 5);
        wrong(ONE, "pump 00000000 out 1 1 1;", 2, 5);
        wrong(ONE, "pump out 0 1 1 1;", 1, 5);
        wrong(ONE, "pump 0 0 1 1 1 1;", 3, 7);
        wrong(ONE, "pump 0 1 1 1 1 1;", 2, 7);
        wrong(ONE, "pump 0 00000000 1 1 1 1;", 2, 7);
        wrong(ONE, "pump 0 0 x", 3, 7);
        wrong(ONE, "pump 0 up 1 1 1;", 1, 7);
        wrong(ONE, "pump 0 ou 1 1 1;", 1, 7);
        wrong(ONE, "pump 0 outs 1 1 1;", 1, 7);
        wrong(ONE, "pump 0 but 1 1 1;", 1, 7);
        wrong(ONE, "jump 0 out 1 1 1;", 1, 0);
        wrong(ONE, "pump 0 ;", 1, 7);
        wrong(ONE, "pump 0 out 0 1 1;", 2, 11);
        wrong(ONE, "pump 0 out 1000 1 1;", 2, 11);
        wrong(ONE, "pump 0 out 1 1000001 1000001;", 2, 13);
        wrong(ONE, "pump 0 out 1 50 40;", 2, 16);
        wrong(ONE, "pump 0 out 1 50 1000001;", 2, 16);
        wrong(ONE, "pump 0 out 1 50 ;", 1, 16);
        wrong(ONE, "pump 0 out 1 1 1 1;", 1, 17);
        wrong(TWO, "pump 0 2 1 1 1 1;", 2, 7);
        wrong(TWO, "pump 1 1 1 1 1 1;", 3, 7);
        wrong(TWO, "pump 0 1 1 1 1;", 1, 14);
        wrong(TWO, "pump 0 1 1 1 1 1000001;", 2, 15);
        wrong(TWO, "pump 0 1 1 1 1 1 1;", 1, 17);
        wrong(TWO, "pump 0 1 1 1 1 1", 1, 16);
        wrong(TWO, "pump 0 out 1 1 1;chamber 1 0 0;", 1, 17);
    }

    private static void wrongValvesAndFlanges() {
        wrong("", "valve 0 out 1 1;", 1, 0);
        wrong("", "flange 0 1;", 1, 0);
        wrong(TWO, "valve 2 0 1 1;", 2, 6);
        wrong(TWO, "valve 0 2 1 1;", 2, 8);
        wrong(TWO, "valve 1 1 1 1;", 3, 8);
        wrong(TWO, "valve 1 0000001 1 1;", 3, 8);
        wrong(TWO, "valve 1 in 1 1;", 1, 8);
        wrong(TWO, "valve 1 0 0 1;", 2, 10);
        wrong(TWO, "valve 1 0 1000 1;", 2, 10);
        wrong(TWO, "valve 1 out 1 1000001;", 2, 14);
        wrong(TWO, "valve 1 out 1 1", 1, 15);
        wrong(TWO, "valve 1 out 1;", 1, 13);
        wrong(TWO, "valve 0 1 1 1;pump 0 out 1 1 1;", 1, 14);
        wrong(TWO, "valve 0 1 1 1;chamber 1 1 1;", 1, 14);
        wrong(TWO, "flange 2 1;", 2, 7);
        wrong(TWO, "flange out 1;", 1, 7);
        wrong(TWO, "flange 1 10000;", 2, 9);
        wrong(TWO, "flange 1;", 1, 8);
        wrong(TWO, "flange 1 1 1;", 1, 11);
        wrong(TWO, "flange 1 1;valve 0 1 1 1;", 1, 11);
        wrong(TWO, "flange 1 1;pump 0 out 1 1 1;", 1, 11);
    }

    private static void tooMany() {
        wrong(ONE.repeat(8), "chamber 1 0 0;", 4, 0);
        wrong(ONE.repeat(8), "chamber", 4, 0);
        wrong(ONE.repeat(8) + "pump 0 out 1 1 1;", "chamber 1 0 0;", 1, 0);
        wrong(ONE + "pump 0 out 1 1 1;".repeat(6), "pump 0 out 1 1 1;", 4, 0);
        wrong(ONE + "pump 0 out 1 1 1;".repeat(6) + "flange 0 1;", "pump 0 out 1 1 1;", 1, 0);
        wrong(ONE + "valve 0 out 1 1;".repeat(10), "valve ;", 4, 0);
        wrong(ONE + "valve 0 out 1 1;".repeat(10) + "flange 0 1;", "valve ;", 1, 0);
        wrong(ONE + "flange 0 1;".repeat(24), "flange 0 1;", 4, 0);
    }

    private static void wrongTextKeepsAll() {
        VacuumSequencer x = Check.system(TWO + "pump 0 out 1 0 1000000;flange 1 3;");
        x.start(0);
        x.pass(2);
        long gas = x.gas(0);
        Check.put(x, "chamber 5 5 5;chamber 6 6 6;chamber 7 7 7;flange 0 1;flange 2 9;x");
        Check.due("parseSystem of a wrong text", x.parseSystem(), -1);
        Check.due("errorCode", x.errorCode(), 1);
        Check.due("errorPosition", x.errorPosition(), 64);
        Check.due("chambers that stay", x.count(0), 2);
        Check.due("volume that stays", x.chamber(0, 0), 1);
        Check.due("flanges that stay", x.count(3), 1);
        Check.due("leak that stays", x.chamber(1, 4), 3);
        Check.due("gas that stays", x.gas(0), gas);
        Check.due("time that stays", x.count(4), 2);
        Check.due("undoDepth that stays", x.undoDepth(), 2);
        Check.due("the buffer is empty after a wrong text", Check.recipe(x, ""), 0);
        Check.due("a recipe leaves errorCode", x.errorCode(), 1);
        Check.recipe(x, "boil");
        Check.due("a wrong recipe leaves errorPosition", x.errorPosition(), 64);
        x.undo();
        Check.due("undo leaves errorCode", x.errorCode(), 1);
        Check.put(x, ONE);
        x.parseSystem();
        Check.due("errorCode after a correct text", x.errorCode(), 0);
        Check.due("errorPosition after a correct text", x.errorPosition(), -1);
    }

    private static void newSystemReplacesAll() {
        VacuumSequencer x = Check.system(TWO + "pump 0 out 9 0 1000000;pump 1 out 9 0 1000000;"
                + "valve 0 out 1 0;valve 1 out 1 0;flange 1 3;");
        x.start(1);
        x.open(0);
        x.setOutgassing(1, 77);
        x.setRule(1, 50);
        x.setLeak(0, 70);
        x.open(1);
        x.pass(2);
        Check.due("trips of pumps before the new system", x.count(6), 1);
        x.setRule(1, 0);
        x.pass(1);
        Check.due("trips of valves before the new system", x.count(5), 1);
        x.close(0);
        x.test(0, 2);
        x.open(0);
        x.writeReport();
        x.start(0);
        Check.put(x, TWO + "pump 0 out 9 0 999999;pump 1 out 9 0 1000000;"
                + "valve 0 out 1 8;valve 1 out 1 9;flange 1 4;");
        Check.due("parseSystem again", x.parseSystem(), 2);
        Check.due("time of the new system", x.count(4), 0);
        Check.due("pumps of the new system", x.count(1), 2);
        Check.due("valves of the new system", x.count(2), 2);
        Check.due("flanges of the new system", x.count(3), 1);
        Check.due("valve trips of the new system", x.count(5), 0);
        Check.due("pump trips of the new system", x.count(6), 0);
        Check.due("tests of the new system", x.count(7), 0);
        Check.due("undoDepth of the new system", x.undoDepth(), 0);
        Check.throwsState("undo behind the new system", x::undo);
        Check.due("gas of the new system", x.gas(1), 2000000);
        Check.due("outgassing of the new system", x.chamber(1, 1), 0);
        Check.due("leaks of the new system", x.chamber(1, 4), 4);
        Check.due("rule of the new system", x.valve(1, 3), 9);
        Check.due("no valve is open in the new system", x.valve(0, 4) + x.valve(1, 4), 0);
        Check.due("no pump runs in the new system", x.pump(0, 6) + x.pump(1, 6), 0);
        Check.due("the report stays", x.reportByte(0), 'c');
    }
}
