/**
 * The edges that section 6 and promise 18 name for recipes: a method for each sentence, which stands above it.
 */
public final class RecipeEdgesTest {
    /** Chamber 0 loses a tenth of its pressure in each tick while pump 0 runs; pump 1 may not be started at first. */
    private static final String BASE = "chamber 10 0 0;chamber 10 0 0;pump 0 out 1 0 1000000;pump 1 0 1 0 999999 0;"
            + "valve 0 1 1 0;valve 0 out 1 50000;flange 0 7;flange 1 20;";

    public static void main(String[] args) {
        noSteps();
        everyStep();
        semicolonExecutes();
        numbersOfSteps();
        partsOfSteps();
        stepsThatMayNotBe();
        ticksOfWait();
        pressuresOfUntil();
        ticksOfTest();
        lengthOfNumbers();
        tokensThatCannotStand();
        endsTooEarly();
        firstThatIsMet();
        laterStepsSeeEarlierOnes();
        nothingChangesButTheBuffer();
        oneChange();
        fullBuffer();
        Check.end();
    }

    private static void good(String text, int steps) {
        VacuumSequencer x = Check.system(BASE);
        Check.due("recipe " + text, Check.recipe(x, text), steps);
        Check.due("changes by " + text, x.undoDepth(), 1);
        Check.throwsArgument("buffer after " + text, () -> x.truncateText(1));
    }

    /** The recipe is wrong where its second half begins; nothing changes then but the buffer. */
    private static void wrong(String before, String rest) {
        VacuumSequencer x = Check.system(BASE);
        String told = before + "<>" + rest;
        String view = Check.view(x);
        Check.due("recipe " + told, Check.recipe(x, before + rest), -1 - before.length());
        Check.due("what is after " + told, Check.view(x), view);
        Check.throwsArgument("buffer after " + told, () -> x.truncateText(1));
    }

    /** "A text without tokens has no steps and is a change, too." */
    private static void noSteps() {
        good("", 0);
        good(" ", 0);
        good("\n", 0);
        good(" \n".repeat(450), 0);
        Check.due("without parts", Check.recipe(new VacuumSequencer(), ""), 0);
    }

    /** Each step: "open V", "close V", "start P", "stop P", "wait T", "until C P", "seal F" and "test C T". */
    private static void everyStep() {
        good("open 0;", 1);
        good("open 0;close 0;", 2);
        good("start 0;", 1);
        good("start 0;stop 0;", 2);
        good("wait 1;", 1);
        good("until 0 1000000;", 1);
        good("seal 0;", 1);
        good("test 0 2;", 1);
        VacuumSequencer x = Check.system(BASE);
        Check.due("all of them", Check.recipe(x, "open 1;close 1;start 0;until 0 900000;stop 0;wait 2;seal 1;"
                + "test 1 4;"), 8);
        Check.due("time", x.count(4), 7);
        // 9000000 units and seven for each tick after the first one.
        Check.due("gas of chamber 0", x.gas(0), 9000042);
        Check.due("leak of flange 1", x.flange(1, 1), 0);
        Check.due("chamber of the test", x.rise(0, 0), 1);
        Check.due("ticks of the test", x.rise(0, 3), 4);
    }

    /** "executes each step when its semicolon has been read": a step without one is not executed. */
    private static void semicolonExecutes() {
        wrong("open 9", "");
        wrong("open 9 ", "0;");
        wrong("open 9", "x");
        wrong("", "open 9;");
        wrong("wait 0", "");
        wrong("", "wait 0;x");
        wrong("", "wait 0;8");
    }

    /** One number for six of the words, two for "until" and "test": not one less and not one more. */
    private static void numbersOfSteps() {
        for (String word : new String[] {"open", "close", "start", "stop", "wait", "seal"}) {
            wrong(word, ";");
            wrong(word + " 1 ", "1;");
        }
        for (String word : new String[] {"until", "test"}) {
            wrong(word, ";");
            wrong(word + " 0", ";");
            wrong(word + " 0 2 ", "2;");
        }
    }

    /** "for which the corresponding method would throw": the last part that is there and the first that is not. */
    private static void partsOfSteps() {
        good("open 1;", 1);
        wrong("", "open 2;");
        good("open 1;close 1;", 2);
        wrong("", "close 2;");
        wrong("", "start 2;");
        wrong("", "stop 2;");
        good("seal 1;", 1);
        wrong("", "seal 2;");
        good("until 1 1000000;", 1);
        wrong("", "until 2 1000000;");
        good("test 1 2;", 1);
        wrong("", "test 2 2;");
        wrong("", "seal 9999999;");
    }

    /** The states in which open, close, start, stop and test throw. */
    private static void stepsThatMayNotBe() {
        wrong("open 1;", "open 1;");
        wrong("start 0;wait 1;", "open 0;");
        wrong("start 0;wait 1;", "open 1;");
        wrong("", "close 1;");
        wrong("open 1;close 1;", "close 1;");
        wrong("", "start 1;");
        wrong("start 0;", "start 0;");
        wrong("", "stop 0;");
        wrong("start 0;stop 0;", "stop 0;");
        wrong("open 1;", "test 0 2;");
        wrong("open 0;", "test 1 2;");
        wrong("start 0;", "test 0 2;");
        good("open 1;test 1 2;", 2);
    }

    /** pass: "ticks: 1 to 999". */
    private static void ticksOfWait() {
        good("wait 1;", 1);
        good("wait 999;", 1);
        good("wait 0000999;", 1);
        wrong("", "wait 0;");
        wrong("", "wait 1000;");
        wrong("", "wait 9999999;");
    }

    /** passUntil: "pressure: 0 to 1000000", "if 999 ticks are not enough". */
    private static void pressuresOfUntil() {
        good("until 0 1000000;", 1);
        good("start 0;until 0 999999;", 2);
        good("start 0;until 0 20;", 2);
        wrong("", "until 0 999999;");
        wrong("", "until 0 1000001;");
        wrong("", "until 0 9999999;");
        wrong("start 0;", "until 0 0;");
        good("seal 0;start 0;until 0 0;", 3);
        VacuumSequencer x = Check.system("chamber 999 0 0;pump 0 out 1 0 1000000;");
        x.start(0);
        int last = x.pressureAfter(0, 999);
        Check.due("1000 ticks", Check.recipe(x, "until 0 " + (last - 1) + ";"), -1);
        Check.due("no tick of them", x.count(4), 0);
        Check.due("999 ticks", Check.recipe(x, "until 0 " + last + ";"), 1);
        Check.due("all of them", x.count(4), 999);
    }

    /** test: "ticks: 2 to 998, even". */
    private static void ticksOfTest() {
        good("test 0 2;", 1);
        good("test 0 998;", 1);
        wrong("", "test 0 0;");
        wrong("", "test 0 1;");
        wrong("", "test 0 3;");
        wrong("", "test 0 997;");
        wrong("", "test 0 999;");
        wrong("", "test 0 1000;");
        wrong("", "test 0 9999999;");
    }

    /** "also a number of more than seven digits": the error is at the number, not at the word. */
    private static void lengthOfNumbers() {
        good("wait 0000001;", 1);
        wrong("wait ", "00000001;");
        wrong("wait ", "10000000;");
        wrong("until ", "00000000 1000000;");
        good("until 0000000 1000000;", 1);
        wrong("until 0 ", "01000000;");
        wrong("test 0 ", "00000002;");
        wrong("wait ", "4294967297;");
    }

    /** "also ... an unknown word, and a byte that begins no token". */
    private static void tokensThatCannotStand() {
        wrong("", "boil 0;");
        wrong("", "chamber 1 0 0;");
        wrong("", "waits 1;");
        wrong("", "wai 1;");
        wrong("", "Wait 1;");
        wrong("", ";");
        wrong("", "1;");
        wrong("wait 1;", ";");
        wrong("wait ", "out;");
        wrong("wait ", "wait 1;");
        wrong("until 0 ", "x;");
        for (int sign = 0; sign < 256; sign++) {
            if (sign == ' ' || sign == '\n') {
                good("wait 1;" + (char) sign, 1);
                good("wait" + (char) sign + "1;", 1);
            } else {
                wrong("wait 1;", "" + (char) sign);
            }
        }
    }

    /** "at its length if it ends too early", with the blanks and line feeds at its end. */
    private static void endsTooEarly() {
        String[] tokens = {"until", "0", "1000000", ";", "wait", "1", ";"};
        StringBuilder text = new StringBuilder();
        for (String token : tokens) {
            for (String end : new String[] {"", " ", "\n", " \n "}) {
                if (text.length() == 0 || text.charAt(text.length() - 1) == ';') {
                    good(text + end, text.length() == 0 ? 0 : 1);
                } else {
                    wrong(text + end, "");
                }
            }
            text.append(' ').append(token);
        }
        good(text.toString(), 2);
    }

    /** "The first of these that is met while reading counts." */
    private static void firstThatIsMet() {
        wrong("", "close 0;boil 0;");
        wrong("", "boil 0;close 0;");
        wrong("close 0 ", "boil;");
        wrong("close ", "00000000;");
        wrong("wait 1;", "close 0;wait");
        wrong("wait 1;", "wait 0;wait 12345678;");
        wrong("wait ", "12345678;wait 0;");
    }

    /** A step sees what the steps before it have done, trips too: with pump 0, valve 1 trips in the second tick. */
    private static void laterStepsSeeEarlierOnes() {
        good("start 0;wait 1;stop 0;", 3);
        good("open 1;close 1;open 1;", 3);
        good("open 1;start 0;wait 1;close 1;", 4);
        wrong("open 1;start 0;wait 2;", "close 1;");
    }

    /** "-1 - p if the text is wrong at position p, and then nothing changes but the buffer". */
    private static void nothingChangesButTheBuffer() {
        VacuumSequencer x = Check.system(BASE);
        x.test(0, 2);
        x.setLeak(1, 33);
        x.writeReport();
        Check.put(x, "boil");
        x.parseSystem();
        Check.put(x, "start");
        x.truncateText(0);
        String view = Check.view(x);
        String all = "open 0;close 0;start 0;wait 9;until 0 500000;stop 0;seal 1;test 1 2;";
        Check.due("all steps and a wrong one", Check.recipe(x, all + "stop 0;"), -1 - all.length());
        Check.due("what is after it", Check.view(x), view);
        Check.due("undo after it", x.undo(), 1);
        Check.due("leak after undo", x.flange(1, 1), 20);
        x.undo();
        Check.due("tests after undo", x.count(7), 0);
    }

    /** "executes it as one change". */
    private static void oneChange() {
        VacuumSequencer x = Check.system(BASE);
        x.setLeak(0, 3);
        String view = Check.view(x);
        Check.due("six steps", Check.recipe(x, "seal 0;seal 1;wait 3;start 0;wait 1;test 1 2;"), 6);
        Check.due("are one change", x.undoDepth(), 2);
        Check.due("undo of it", x.undo(), 1);
        Check.due("what is after undo", Check.view(x), view);
        Check.due("no steps", Check.recipe(x, "\n"), 0);
        Check.due("are one change, too", x.undoDepth(), 2);
    }

    /** A text as long as the buffer: 150 steps, and one that is wrong at its end. */
    private static void fullBuffer() {
        good("seal0;".repeat(150), 150);
        wrong("seal0;".repeat(149) + "seal0 ", "");
        wrong("seal0;".repeat(149), "seal2;");
        wrong(" ".repeat(899), "x");
        wrong(" ".repeat(894) + "seal 0", "");
        wrong("wait ", "0".repeat(895));
    }
}
