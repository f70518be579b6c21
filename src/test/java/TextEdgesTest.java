/**
 * The edges that sections 2 and 6 and the promises 1 to 6 name for texts: a method for each sentence, which stands
 * above it. What one sentence refuses is held against what it allows next to it.
 */
public final class TextEdgesTest {
    private static final String ONE = "chamber 1 0 0;";
    private static final String TWO = ONE + ONE;

    public static void main(String[] args) {
        newObject();
        lengthAfterAppending();
        byteOrder();
        truncating();
        bufferAfterParsing();
        latestError();
        newSystem();
        numbersOfChambers();
        numbersOfPumps();
        numbersOfValves();
        numbersOfFlanges();
        highNotBelowLow();
        chambersThatAreThere();
        exhaustAndOtherSide();
        fewestStatements();
        mostStatements();
        orderOfStatements();
        semicolons();
        everyByte();
        wordsAndNumbers();
        blanksAndLineFeeds();
        endOfTheText();
        lengthOfNumbers();
        lowestCodeAtOneToken();
        firstTokenWithAnError();
        fullBuffer();
        Check.end();
    }

    private static void correct(String text, int chambers) {
        VacuumSequencer x = new VacuumSequencer();
        Check.put(x, text);
        Check.due("chambers of " + text, x.parseSystem(), chambers);
        Check.due("errorCode of " + text, x.errorCode(), 0);
        Check.due("errorPosition of " + text, x.errorPosition(), VacuumSequencer.NONE);
    }

    private static void wrong(String before, String rest, int code) {
        VacuumSequencer x = new VacuumSequencer();
        Check.put(x, before + rest);
        String told = before + "<>" + rest;
        Check.due("parseSystem of " + told, x.parseSystem(), VacuumSequencer.NONE);
        Check.due("errorCode of " + told, x.errorCode(), code);
        Check.due("errorPosition of " + told, x.errorPosition(), before.length());
    }

    /** "Creates a sequencer without parts"; "Before the first correct system text ... the time is 0". */
    private static void newObject() {
        VacuumSequencer x = new VacuumSequencer();
        for (int what = 0; what <= 7; what++) {
            Check.due("count(" + what + ") of a new object", x.count(what), 0);
        }
        Check.throwsIndex("no chamber 0", () -> x.chamber(0, 0));
        Check.throwsIndex("no pump 0", () -> x.start(0));
        Check.throwsIndex("no valve 0", () -> x.open(0));
        Check.throwsIndex("no flange 0", () -> x.seal(0));
        Check.due("openable of a new object", x.openable(), 0);
        Check.due("report of a new object", x.writeReport(), 0);
        Check.put(x, ONE + "x");
        x.parseSystem();
        Check.due("no parts by a wrong first text", x.count(0), 0);
    }

    /** "IllegalStateException if the length would be above 900". */
    private static void lengthAfterAppending() {
        VacuumSequencer x = new VacuumSequencer();
        for (int length = 20; length <= 900; length += 20) {
            Check.due("length " + length, x.appendText(0x20202020, 0, 0, 0, 0), length);
        }
        Check.throwsState("appending to 920", () -> x.appendText(1, 1, 1, 1, 1));
        Check.due("the length stays 900", x.truncateText(900), 900);
        x.truncateText(881);
        Check.throwsState("appending to 901", () -> x.appendText(1, 1, 1, 1, 1));
        Check.due("the length stays 881", x.truncateText(881), 881);
        Check.throwsArgument("and no more", () -> x.truncateText(882));
        x.truncateText(880);
        Check.due("appending to 900", x.appendText(1, 1, 1, 1, 1), 900);
        x.truncateText(0);
        Check.due("appending to nothing", x.appendText(1, 1, 1, 1, 1), 20);
    }

    /** "the four bytes of each argument in order, the most significant byte first": a strange byte at each place. */
    private static void byteOrder() {
        for (int place = 0; place < 20; place++) {
            for (int strange : new int[] {0, 1, 127, 128, 255}) {
                int[] words = {0x20202020, 0x20202020, 0x20202020, 0x20202020, 0x20202020};
                int shift = 24 - place % 4 * 8;
                words[place / 4] = words[place / 4] & ~(255 << shift) | strange << shift;
                VacuumSequencer x = new VacuumSequencer();
                x.appendText(words[0], words[1], words[2], words[3], words[4]);
                x.parseSystem();
                Check.due("place of byte " + strange, x.errorPosition(), place);
            }
        }
    }

    /** "IllegalArgumentException if length is negative or above the present length". */
    private static void truncating() {
        VacuumSequencer x = new VacuumSequencer();
        Check.due("nothing to nothing", x.truncateText(0), 0);
        Check.throwsArgument("nothing to 1", () -> x.truncateText(1));
        Check.put(x, TWO);
        Check.throwsArgument("28 to 29", () -> x.truncateText(29));
        Check.throwsArgument("28 to -1", () -> x.truncateText(-1));
        Check.throwsArgument("28 to the greatest int", () -> x.truncateText(Integer.MAX_VALUE));
        Check.throwsArgument("28 to the least int", () -> x.truncateText(Integer.MIN_VALUE));
        Check.due("28 to 28", x.truncateText(28), 28);
        Check.due("28 to 27", x.truncateText(27), 27);
        Check.throwsArgument("27 to 28", () -> x.truncateText(28));
        Check.due("27 to 14", x.truncateText(14), 14);
        Check.put(x, " ");
        Check.due("what was cut off is gone", x.parseSystem(), 1);
        Check.put(x, TWO);
        x.truncateText(0);
        Check.due("all cut off", x.parseSystem(), VacuumSequencer.NONE);
        Check.due("the error of a text cut off", x.errorPosition(), 0);
    }

    /** "The buffer is empty afterwards in every case." */
    private static void bufferAfterParsing() {
        VacuumSequencer x = new VacuumSequencer();
        Check.put(x, ONE);
        x.parseSystem();
        Check.throwsArgument("after a correct text", () -> x.truncateText(1));
        Check.put(x, "boil");
        x.parseSystem();
        Check.throwsArgument("after a wrong text", () -> x.truncateText(1));
        x.parseSystem();
        Check.throwsArgument("after no text", () -> x.truncateText(1));
        Check.put(x, "wait 1;");
        x.runRecipe();
        Check.throwsArgument("after a recipe", () -> x.truncateText(1));
        Check.put(x, "wait 0;");
        x.runRecipe();
        Check.throwsArgument("after a wrong recipe", () -> x.truncateText(1));
    }

    /** "of the latest parseSystem()"; "0 if it had no error or was never called"; "NONE if ..."; "the system stays". */
    private static void latestError() {
        VacuumSequencer x = new VacuumSequencer();
        Check.due("errorCode, never called", x.errorCode(), 0);
        Check.due("errorPosition, never called", x.errorPosition(), VacuumSequencer.NONE);
        Check.put(x, TWO + "valve 0 1 0 0;");
        x.parseSystem();
        Check.due("errorCode 2", x.errorCode(), 2);
        Check.due("errorPosition 38", x.errorPosition(), 38);
        Check.put(x, "");
        x.parseSystem();
        Check.due("errorCode of the latest", x.errorCode(), 1);
        Check.due("errorPosition of the latest", x.errorPosition(), 0);
        Check.put(x, TWO + "flange 1 9;");
        x.parseSystem();
        Check.due("errorCode of a correct one", x.errorCode(), 0);
        Check.due("errorPosition of a correct one", x.errorPosition(), VacuumSequencer.NONE);
        Check.put(x, "chamber 7 7 7;flange 0 1;flange 0 2;" + "chamber 1 0 0;");
        Check.due("a text wrong at its last statement", x.parseSystem(), VacuumSequencer.NONE);
        Check.due("the chambers stay", x.count(0), 2);
        Check.due("the volume stays", x.chamber(0, 0), 1);
        Check.due("the flanges stay", x.count(3), 1);
        Check.due("the leak stays", x.chamber(1, 4), 9);
        Check.due("errorCode of the wrong one", x.errorCode(), 1);
    }

    private static final String FULL = "chamber 9 50 0;".repeat(8) + "pump 7 out 1 1000000 1000000;".repeat(6)
            + "valve 7 out 1 99;".repeat(10) + "flange 7 8;".repeat(24);

    /** A full system in which chamber, pump, valve and flange number i have changed, or as many as there are. */
    private static VacuumSequencer oldSystem(int i) {
        VacuumSequencer x = Check.system(FULL);
        x.open(i);
        x.setRule(i, 0);
        x.start(i % 6);
        x.pass(2);
        Check.due("trips of the old system", x.count(5) * 10 + x.count(6), 11);
        if (i % 2 == 1) {
            x.undo();
            Check.due("what is open and runs in the old system", x.valve(i, 4) * 10 + x.pump(i % 6, 6), 11);
        }
        x.setOutgassing(i % 8, 9);
        x.test(i % 7, 2);
        x.setLeak(i, 77);
        return x;
    }

    /** "the new system replaces the present one; the time is 0". */
    private static void newSystem() {
        String after = "wait 3;test 6 4;seal 23;";
        for (int i = 0; i < 10; i++) {
            VacuumSequencer x = oldSystem(i);
            Check.put(x, FULL);
            Check.due("chambers of the new system", x.parseSystem(), 8);
            Check.due("what the new system is", Check.view(x), Check.view(Check.system(FULL)));
            VacuumSequencer y = oldSystem(i);
            Check.put(y, FULL);
            y.parseSystem();
            VacuumSequencer first = Check.system(FULL);
            Check.due("a recipe", Check.recipe(y, after), Check.recipe(first, after));
            Check.due("what the new system does", Check.view(y), Check.view(first));
            VacuumSequencer z = oldSystem(i);
            Check.put(z, ONE);
            z.parseSystem();
            Check.due("a system without all that", Check.view(z), Check.view(Check.system(ONE)));
        }
    }

    /** A number from least to greatest: both are allowed, with leading zeros too, and those beside them are not. */
    private static void range(String before, int least, int greatest, String after, int chambers) {
        correct(before + least + after, chambers);
        correct(before + greatest + after, chambers);
        correct(before + "0".repeat(7 - ("" + greatest).length()) + greatest + after, chambers);
        if (least > 0) {
            wrong(before, least - 1 + after, 2);
        } else {
            wrong(before, "-1" + after, 1);
        }
        wrong(before, greatest + 1 + after, 2);
        wrong(before, "9999999" + after, 2);
        wrong(before, "0".repeat(8 - ("" + greatest).length()) + greatest + after, 2);
    }

    /** "A chamber has a volume (1 to 999), outgassing (0 to 9999 units for each tick) and a decay (0 to 999)." */
    private static void numbersOfChambers() {
        range("chamber ", 1, 999, " 0 0;", 1);
        range("chamber 1 ", 0, 9999, " 0;", 1);
        range("chamber 1 0 ", 0, 999, ";", 1);
        VacuumSequencer x = Check.system("chamber 1 0 0;chamber 999 9999 999;");
        Check.due("volume 1", x.chamber(0, 0), 1);
        Check.due("gas of volume 1", x.gas(0), 1000000);
        Check.due("volume 999", x.chamber(1, 0), 999);
        Check.due("outgassing 9999", x.chamber(1, 1), 9999);
        Check.due("decay 999", x.chamber(1, 2), 999);
        Check.due("gas of volume 999", x.gas(1), 999000000);
    }

    /** "a speed (1 to 999), a low and a high pressure (0 to 1000000 ...) and ... a backing pressure (0 to 1000000)". */
    private static void numbersOfPumps() {
        range(ONE + "pump 0 out ", 1, 999, " 0 0;", 1);
        range(ONE + "pump 0 out 1 ", 0, 1000000, " 1000000;", 1);
        range(ONE + "pump 0 out 1 0 ", 0, 1000000, ";", 1);
        range(TWO + "pump 0 1 ", 1, 999, " 0 0 0;", 2);
        range(TWO + "pump 0 1 1 ", 0, 1000000, " 1000000 0;", 2);
        range(TWO + "pump 0 1 1 0 ", 0, 1000000, " 0;", 2);
        range(TWO + "pump 0 1 1 0 0 ", 0, 1000000, ";", 2);
    }

    /** "It has a conductance (1 to 999) and a rule (0 to 1000000)". */
    private static void numbersOfValves() {
        range(ONE + "valve 0 out ", 1, 999, " 0;", 1);
        range(ONE + "valve 0 out 1 ", 0, 1000000, ";", 1);
        range(TWO + "valve 0 1 ", 1, 999, " 0;", 2);
        range(TWO + "valve 0 1 1 ", 0, 1000000, ";", 2);
    }

    /** "A flange ... has a leak (0 to 9999 units for each tick)." */
    private static void numbersOfFlanges() {
        range(ONE + "flange 0 ", 0, 9999, ";", 1);
    }

    /** "low not above high"; "a high pressure below the low one". */
    private static void highNotBelowLow() {
        correct(ONE + "pump 0 out 1 500 500;", 1);
        correct(ONE + "pump 0 out 1 0 0;", 1);
        correct(ONE + "pump 0 out 1 1000000 1000000;", 1);
        wrong(ONE + "pump 0 out 1 500 ", "499;", 2);
        wrong(ONE + "pump 0 out 1 1 ", "0;", 2);
        wrong(ONE + "pump 0 out 1 1000000 ", "999999;", 2);
        correct(TWO + "pump 1 0 1 500 500 0;", 2);
        wrong(TWO + "pump 1 0 1 500 ", "499 0;", 2);
    }

    /** "also the number of a chamber that is not there": the last one there and the first one not there. */
    private static void chambersThatAreThere() {
        for (int n = 1; n <= 8; n++) {
            String chambers = ONE.repeat(n);
            int last = n - 1;
            correct(chambers + "pump " + last + " out 1 0 0;valve " + last + " out 1 0;flange " + last + " 0;", n);
            wrong(chambers + "pump ", n + " out 1 0 0;", 2);
            wrong(chambers + "valve ", n + " out 1 0;", 2);
            wrong(chambers + "flange ", n + " 0;", 2);
            if (n > 1) {
                correct(chambers + "pump 0 " + last + " 1 0 0 0;valve 0 " + last + " 1 0;", n);
            }
            wrong(chambers + "pump 0 ", n + " 1 0 0 0;", 2);
            wrong(chambers + "valve 0 ", n + " 1 0;", 2);
        }
    }

    /** "3: the number E if it is the same as C"; "two different chambers, or a chamber and the outside". */
    private static void exhaustAndOtherSide() {
        wrong(ONE + "pump 0 ", "0 1 0 0 0;", 3);
        wrong(ONE + "valve 0 ", "0 1 0;", 3);
        wrong(TWO + "pump 1 ", "1 1 0 0 0;", 3);
        wrong(TWO + "valve 1 ", "0000001 1 0;", 3);
        wrong(TWO + "valve 0000001 ", "1 1 0;", 3);
        correct(TWO + "pump 1 0 1 0 0 0;valve 1 0 1 0;valve 0 1 1 0;valve 1 out 1 0;", 2);
        VacuumSequencer x = Check.system(TWO + "pump 1 out 1 0 0;pump 1 0 1 0 0 0;valve 1 out 1 0;valve 1 0 1 0;");
        Check.due("no exhaust", x.pump(0, 1), VacuumSequencer.NONE);
        Check.due("no backing pressure", x.pump(0, 5), VacuumSequencer.NONE);
        Check.due("the exhaust 0", x.pump(1, 1), 0);
        Check.due("the backing pressure 0", x.pump(1, 5), 0);
        Check.due("the outside", x.valve(0, 1), VacuumSequencer.NONE);
        Check.due("the other side 0", x.valve(1, 1), 0);
    }

    /** "1 to 8 statements chamber", "then up to 6 ... 10 ... 24": one chamber alone is enough, and none is not. */
    private static void fewestStatements() {
        wrong("", "", 1);
        wrong("", "pump 0 out 1 0 0;", 1);
        wrong("", "valve 0 out 1 0;", 1);
        wrong("", "flange 0 0;", 1);
        VacuumSequencer x = Check.system(ONE);
        Check.due("one chamber", x.count(0), 1);
        Check.due("no pumps, valves and flanges", x.count(1) + x.count(2) + x.count(3), 0);
        correct(ONE + "flange 0 0;", 1);
        correct(ONE + "valve 0 out 1 0;", 1);
        correct(ONE + "pump 0 out 1 0 0;flange 0 0;", 1);
    }

    /** "There are at most 8 chambers, 6 pumps, 10 valves and 24 flanges"; "4: the keyword of a ninth chamber ...". */
    private static void mostStatements() {
        String pump = "pump 0 out 1 0 0;";
        String valve = "valve 0 out 1 0;";
        String flange = "flange 0 0;";
        VacuumSequencer x = Check.system(ONE.repeat(8) + pump.repeat(6) + valve.repeat(10) + flange.repeat(24));
        Check.due("8 chambers", x.count(0), 8);
        Check.due("6 pumps", x.count(1), 6);
        Check.due("10 valves", x.count(2), 10);
        Check.due("24 flanges", x.count(3), 24);
        wrong(ONE.repeat(8), ONE, 4);
        wrong(ONE + pump.repeat(6), pump, 4);
        wrong(ONE + valve.repeat(10), valve, 4);
        wrong(ONE + flange.repeat(24), flange, 4);
        wrong(ONE.repeat(8), "chamber", 4);
        wrong(ONE + pump.repeat(6), "pump;", 4);
        wrong(ONE + valve.repeat(10), "valve x", 4);
        wrong(ONE + flange.repeat(24), "flange 99 99999", 4);
    }

    /** "consists of ... then ... then ... then": a statement of an earlier kind can no longer stand. */
    private static void orderOfStatements() {
        String[] kinds = {ONE, "pump 0 out 1 0 0;", "valve 0 out 1 0;", "flange 0 0;"};
        for (int a = 0; a < 4; a++) {
            for (int b = 0; b < 4; b++) {
                String before = ONE + kinds[a];
                if (b < a) {
                    wrong(before, kinds[b], 1);
                } else {
                    correct(before + kinds[b], 1 + (a == 0 ? 1 : 0) + (b == 0 ? 1 : 0));
                }
            }
        }
    }

    /** "Each statement ends with a semicolon." */
    private static void semicolons() {
        String[] statements = {"", "pump 0 1 1 0 0 0", "pump 0 out 1 0 0", "valve 0 out 1 0", "flange 0 0"};
        for (String statement : statements) {
            String before = TWO + (statement.isEmpty() ? "chamber 1 0 0" : statement);
            wrong(before, "", 1);
            wrong(before + " ", "flange 0 0;", 1);
            wrong(before + " ", "0;", 1);
            wrong(before + ";", ";", 1);
        }
    }

    /** "a byte that begins no token"; "Blanks (byte 32) and line feeds (byte 10)": each of the 256 bytes. */
    private static void everyByte() {
        for (int sign = 0; sign < 256; sign++) {
            String it = "" + (char) sign;
            boolean letter = sign >= 'a' && sign <= 'z';
            boolean digit = sign >= '0' && sign <= '9';
            if (sign == ' ' || sign == '\n') {
                correct(ONE + it, 1);
                correct("chamber" + it + "1 0 0;", 1);
                continue;
            }
            wrong(ONE, it, 1);
            if (digit) {
                correct("chamber" + it + "1 0 0;", 1);
            } else if (letter) {
                wrong("", "chamber" + it + "1 0 0;", 1);
            } else {
                wrong("chamber", it + "1 0 0;", 1);
            }
        }
    }

    /** "a word (as many letters a to z as follow one another), a number (as many digits as follow one another)". */
    private static void wordsAndNumbers() {
        correct("chamber1 0 0;chamber2 0 0;pump0out1 0 0;valve0out1 0;flange0 0;", 2);
        wrong("", "chambe r 1 0 0;", 1);
        wrong("", "c hamber 1 0 0;", 1);
        wrong("", "chamberchamber 1 0 0;", 1);
        wrong(TWO + "pump 0 ", "outout 1 0 0;", 1);
        wrong(TWO + "pump 0 ", "ou t 1 0 0;", 1);
        VacuumSequencer x = Check.system("chamber 99 9 0;chamber 1 0 0;");
        Check.due("digits that follow one another", x.chamber(0, 0), 99);
        Check.due("digits behind a blank", x.chamber(0, 1), 9);
        wrong("chamber 1 0 0", "x;", 1);
        wrong("chamber 1 0 ", "x0;", 1);
    }

    /** "Blanks and line feeds may stand before, between and after tokens." */
    private static void blanksAndLineFeeds() {
        String[] tokens = {"chamber", "7", "8", "9", ";", "flange", "0", "5", ";"};
        for (String gap : new String[] {" ", "\n", " \n", "\n\n  \n"}) {
            VacuumSequencer x = Check.system(gap + String.join(gap, tokens) + gap);
            Check.due("volume", x.chamber(0, 0), 7);
            Check.due("leak", x.flange(0, 1), 5);
            wrong(gap + String.join(gap, "chamber", "7", "8", "9", ";", "flange", "0") + gap, ";", 1);
        }
    }

    /** "the length of the text at its end", which may have blanks; "the end of the text where it cannot end". */
    private static void endOfTheText() {
        String[] tokens = {"chamber", "1", "0", "0", ";", "pump", "0", "out", "1", "0", "0", ";",
            "valve", "0", "out", "1", "0", ";", "flange", "0", "0", ";"};
        StringBuilder text = new StringBuilder();
        for (String token : tokens) {
            for (String end : new String[] {"", " ", "\n", "   "}) {
                if (text.length() > 0 && text.charAt(text.length() - 1) == ';') {
                    correct(text + end, 1);
                } else {
                    wrong(text + end, "", 1);
                }
            }
            text.append(text.length() == 0 ? "" : " ").append(token);
        }
        correct(text.toString(), 1);
    }

    /** "or that has more than seven digits". */
    private static void lengthOfNumbers() {
        correct("chamber 0000001 0000000 0000000;", 1);
        wrong("chamber ", "00000001 0 0;", 2);
        wrong("chamber 1 ", "00000000 0;", 2);
        wrong("chamber 1 0 ", "00000000;", 2);
        // Eleven digits whose int wraps around to 1, and twenty whose long does.
        wrong("chamber ", "4294967297 0 0;", 2);
        wrong("chamber ", "18446744073709551617 0 0;", 2);
        wrong("chamber ", "1".repeat(300) + " 0 0;", 2);
        correct(ONE + "pump 0 out 1 1000000 1000000;", 1);
        wrong(ONE + "pump 0 out 1 ", "01000000 1000000;", 2);
    }

    /** "the codes are, at one token the lowest one that applies". */
    private static void lowestCodeAtOneToken() {
        wrong("", "99999999", 1);
        wrong("chamber 1 0 0 ", "99999999;", 1);
        wrong(ONE + "pump 0 out 1 0 0 ", "99999999;", 1);
        wrong(ONE + "pump 0 ", "00000000 1 0 0 0;", 2);
        wrong(ONE + "valve 0 ", "00000000 1 0;", 2);
        wrong(ONE.repeat(8) + "flange 0 0;", "chamber 1 0 0;", 1);
        wrong(ONE + "pump 0 out 1 0 0;".repeat(6) + "valve 0 out 1 0;", "pump", 1);
        wrong(ONE + "valve 0 out 1 0;".repeat(10) + "flange 0 0;", "valve", 1);
        wrong(ONE.repeat(7) + "chamber ", "chamber 1 0 0;", 1);
    }

    /** "The first token with an error counts". */
    private static void firstTokenWithAnError() {
        wrong("chamber ", "0 10000 1000 x", 2);
        wrong("chamber 1 ", "10000 1000;", 2);
        wrong(ONE + "pump ", "1 1 0 0 0 0;", 2);
        wrong(ONE + "pump 0 ", "0 0 0 0 0;", 3);
        wrong(ONE + "pump 0 ", "0 \0", 3);
        wrong(ONE + "valve 0 ", "1 1 1000001;", 2);
        wrong(ONE.repeat(8), "chamber 0 0 0;", 4);
        wrong(ONE, "boil 0;" + ONE.repeat(8), 1);
    }

    /** A text as long as the buffer: a correct one, and one that is wrong at its end. */
    private static void fullBuffer() {
        correct(ONE + " ".repeat(886), 1);
        correct(" ".repeat(886) + ONE, 1);
        wrong("\n".repeat(900), "", 1);
        wrong(" ".repeat(887) + "chamber 1 0 0", "", 1);
        wrong(ONE + " ".repeat(885), "x", 1);
        wrong("", "a".repeat(900), 1);
        wrong("chamber ", "0".repeat(892), 2);
    }
}
