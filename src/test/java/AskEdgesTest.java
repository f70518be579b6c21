/**
 * The edges that section 5 and the promises 19 to 36 and 44 to 49 name: what there is, valves and chambers together,
 * leak hunts and the report. A method for each sentence or method of the face.
 */
public final class AskEdgesTest {
    private static final String ONE = "chamber 1 0 0;";
    private static final String TWO = ONE + ONE;
    private static final String FULL = ONE.repeat(8) + "pump 7 out 1 1000000 1000000;".repeat(6)
            + "valve 7 out 1 0;".repeat(10) + "flange 7 9999;".repeat(24);
    private static final int[] FAR = {Integer.MIN_VALUE, -1, Integer.MAX_VALUE};

    public static void main(String[] args) {
        counts();
        valuesOfChambers();
        valuesOfPumps();
        valuesOfValves();
        valuesOfFlanges();
        valuesOfTests();
        mayOpenInOrder();
        mayStartInOrder();
        joinedAlone();
        joinedAll();
        notThroughTheOutside();
        ventedOrNot();
        spreads();
        fewestWays();
        fewestToTheOutside();
        othersOfFewestValves();
        settledTruncates();
        openableNoneAndAll();
        widestOfSeveral();
        sprayedSets();
        sumsBelowTheThreshold();
        thresholds();
        halvesOfGroups();
        chamberWithoutFlanges();
        worstOfSeveral();
        emptyReports();
        digitsOfTheReport();
        fullReport();
        bytesOfTheReport();
        Check.end();
    }

    /** Each number beside those from 0 to most is refused as an argument. */
    private interface Asked {
        void about(int what);
    }

    private static void whats(String name, int most, Asked asked) {
        for (int what = 0; what <= most; what++) {
            asked.about(what);
        }
        for (int what : FAR) {
            Check.throwsArgument(name + " of " + what, () -> asked.about(what));
        }
        Check.throwsArgument(name + " of " + (most + 1), () -> asked.about(most + 1));
    }

    /** The numbers from 0 to most are those of a part that is there, and none beside them is. */
    private static void parts(String name, int most, Asked asked) {
        asked.about(0);
        asked.about(most);
        for (int part : FAR) {
            Check.throwsIndex(name + " of " + part, () -> asked.about(part));
        }
        Check.throwsIndex(name + " of " + (most + 1), () -> asked.about(most + 1));
    }

    /** count: "IllegalArgumentException if what is not 0 to 7". */
    private static void counts() {
        whats("count of a new object", 7, what -> Check.due("count " + what, new VacuumSequencer().count(what), 0));
        VacuumSequencer x = Check.system(FULL);
        int[] due = {8, 6, 10, 24, 0, 0, 0, 0};
        whats("count", 7, what -> Check.due("count " + what, x.count(what), due[what]));
    }

    /** chamber, gas: no such chamber; what is 0 to 6; nothing and all of what a chamber can have. */
    private static void valuesOfChambers() {
        VacuumSequencer x = Check.system(FULL);
        int[] empty = {1, 0, 0, 1000000, 0, 0, 0};
        int[] full = {1, 0, 0, 1000000, 24 * 9999, 1023, 63};
        whats("chamber 0", 6, what -> Check.due("chamber 0, " + what, x.chamber(0, what), empty[what]));
        whats("chamber 7", 6, what -> Check.due("chamber 7, " + what, x.chamber(7, what), full[what]));
        parts("chamber", 7, c -> x.chamber(c, 0));
        parts("gas", 7, c -> Check.due("gas of chamber " + c, x.gas(c), 1000000));
        VacuumSequencer y = Check.system(TWO + "pump 0 1 1 0 0 0;valve 0 1 1 0;valve 1 out 1 0;");
        Check.due("the pump of chamber 0", y.chamber(0, 6), 1);
        Check.due("the exhaust is not pumped", y.chamber(1, 6), 0);
        Check.due("a valve's first side", y.chamber(0, 5), 1);
        Check.due("a valve's other side", y.chamber(1, 5), 3);
    }

    /** pump: no such pump; what is 0 to 7; "NONE for the outside", "NONE without an exhaust". */
    private static void valuesOfPumps() {
        VacuumSequencer x = Check.system(FULL);
        int[] due = {7, VacuumSequencer.NONE, 1, 1000000, 1000000, VacuumSequencer.NONE, 0, 0};
        whats("pump 5", 7, what -> Check.due("pump 5, " + what, x.pump(5, what), due[what]));
        parts("pump", 5, p -> x.pump(p, 0));
        VacuumSequencer y = Check.system(TWO + "pump 1 0 999 0 0 0;pump 0 1 1 0 0 1000000;");
        int[] first = {1, 0, 999, 0, 0, 0, 0, 0};
        whats("pump 0", 7, what -> Check.due("pump 0, " + what, y.pump(0, what), first[what]));
        Check.due("the greatest backing pressure", y.pump(1, 5), 1000000);
        Check.throwsIndex("no pumps", () -> Check.system(ONE).pump(0, 0));
    }

    /** valve: no such valve; what is 0 to 6; "NONE for the outside". */
    private static void valuesOfValves() {
        VacuumSequencer x = Check.system(FULL);
        int[] due = {7, VacuumSequencer.NONE, 1, 0, 0, 0, 0};
        whats("valve 9", 6, what -> Check.due("valve 9, " + what, x.valve(9, what), due[what]));
        parts("valve", 9, v -> x.valve(v, 0));
        VacuumSequencer y = Check.system(TWO + "valve 1 0 999 1000000;");
        int[] first = {1, 0, 999, 1000000, 0, 0, 0};
        whats("valve 0", 6, what -> Check.due("valve 0, " + what, y.valve(0, what), first[what]));
        Check.throwsIndex("no valves", () -> Check.system(ONE).valve(0, 0));
    }

    /** flange: no such flange; what is 0 or 1. */
    private static void valuesOfFlanges() {
        VacuumSequencer x = Check.system(FULL);
        int[] due = {7, 9999};
        whats("flange 23", 1, what -> Check.due("flange 23, " + what, x.flange(23, what), due[what]));
        parts("flange", 23, f -> x.flange(f, 0));
        Check.throwsIndex("no flanges", () -> Check.system(ONE).flange(0, 0));
    }

    /** rise, riseGas: "if so many tests are not kept"; what is 0 to 3. */
    private static void valuesOfTests() {
        VacuumSequencer x = Check.system(ONE);
        Check.throwsIndex("rise of no test", () -> x.rise(0, 0));
        Check.throwsIndex("riseGas of no test", () -> x.riseGas(0, true));
        x.test(0, 2);
        parts("rise of one test", 0, ago -> x.rise(ago, 0));
        parts("riseGas of one test", 0, ago -> x.riseGas(ago, false));
        int[] due = {0, 0, 2, 2};
        whats("rise", 3, what -> Check.due("rise, " + what, x.rise(0, what), due[what]));
        for (int i = 0; i < 10; i++) {
            x.test(0, 2);
        }
        parts("rise of eleven tests", 9, ago -> x.rise(ago, 3));
        parts("riseGas of eleven tests", 9, ago -> x.riseGas(ago, true));
    }

    /** mayOpen: "0 if it may; 1 if it is open; 2 if its condition is not met". */
    private static void mayOpenInOrder() {
        VacuumSequencer x = Check.system("chamber 1 5 1;valve 0 out 1 4;valve 0 out 1 5;valve 0 out 1 6;");
        parts("mayOpen", 2, v -> Check.due("mayOpen of " + v, x.mayOpen(v), 0));
        x.open(0);
        Check.due("an open one", x.mayOpen(0), 1);
        x.close(0);
        x.pass(1);
        Check.due("one above the rule", x.mayOpen(0), 2);
        Check.due("at the rule", x.mayOpen(1), 0);
        Check.due("one below the rule", x.mayOpen(2), 0);
        x.open(2);
        x.setRule(2, 0);
        Check.due("open and above the rule", x.mayOpen(2), 1);
    }

    /** mayStart: "of several the lowest". */
    private static void mayStartInOrder() {
        VacuumSequencer x = Check.system("chamber 1 1 1;chamber 1 1 1;pump 0 1 1 0 1000000 1000000;"
                + "pump 0 1 1 0 1000000 999999;pump 0 1 1 0 999999 1000000;pump 0 1 1 0 999999 999999;"
                + "pump 0 out 1 0 999999;");
        int[] due = {0, 3, 2, 2, 2};
        parts("mayStart", 4, p -> Check.due("mayStart of " + p, x.mayStart(p), due[p]));
        Check.due("mayStart of 1", x.mayStart(1), due[1]);
        Check.due("mayStart of 2", x.mayStart(2), due[2]);
        Check.due("mayStart of 3", x.mayStart(3), due[3]);
        VacuumSequencer y = Check.system("chamber 2 0 0;chamber 1 9 1;pump 0 1 1 0 1000000 1000000;"
                + "pump 1 out 1 999991 1000000;");
        y.start(0);
        y.pass(1);
        Check.due("tripped by the pressure of its exhaust", y.mayStart(0), 3);
        VacuumSequencer z = Check.system("chamber 1 1 1;pump 0 out 1 1000000 1000000;");
        z.start(0);
        z.setOutgassing(0, 0);
        Check.due("running", z.mayStart(0), 1);
    }

    /** joined: "the set, with the chamber itself". */
    private static void joinedAlone() {
        VacuumSequencer x = Check.system(ONE.repeat(8) + "valve 6 7 1 0;");
        for (int c = 0; c < 8; c++) {
            Check.due("joined of " + c, x.joined(c), 1 << c);
        }
        parts("joined", 7, x::joined);
        x.open(0);
        Check.due("joined of 6", x.joined(6), 192);
        Check.due("joined of 7", x.joined(7), 192);
        Check.due("joined of 5", x.joined(5), 32);
    }

    /** A chain of all chambers, its valves in an order that lets a search go one chamber at a time. */
    private static void joinedAll() {
        StringBuilder text = new StringBuilder(ONE.repeat(8));
        for (int c = 7; c > 0; c--) {
            text.append("valve ").append(c - 1).append(' ').append(c).append(" 1 0;");
        }
        VacuumSequencer x = Check.system(text + "valve 7 out 1 0;");
        for (int v = 0; v < 8; v++) {
            x.open(v);
        }
        for (int c = 0; c < 8; c++) {
            Check.due("joined of " + c, x.joined(c), 255);
            Check.due("isVented of " + c, x.isVented(c), true);
            Check.due("spread of " + c, x.spread(c), 0);
            Check.due("settled of " + c, x.settled(c), 1000000);
            Check.due("fewest valves to the outside from " + c, x.fewestValves(c, VacuumSequencer.NONE), 8 - c);
            Check.due("fewest valves to chamber 7 from " + c, x.fewestValves(c, 7), 7 - c);
            Check.due("fewest valves to chamber 0 from " + c, x.fewestValves(c, 0), c);
        }
        x.close(3);
        Check.due("joined of 0 with a gap", x.joined(0), 15);
        Check.due("joined of 7 with a gap", x.joined(7), 240);
        Check.due("isVented of 0 with a gap", x.isVented(0), false);
        Check.due("isVented of 4 with a gap", x.isVented(4), true);
    }

    /** joined, fewestValves: "not through the outside". */
    private static void notThroughTheOutside() {
        VacuumSequencer x = Check.system(ONE.repeat(3) + "valve 0 out 1 0;valve 1 out 1 0;valve 1 2 1 0;");
        x.open(0);
        x.open(1);
        x.open(2);
        Check.due("joined of 0", x.joined(0), 1);
        Check.due("joined of 1", x.joined(1), 6);
        Check.due("no way to 1", x.fewestValves(0, 1), VacuumSequencer.NONE);
        Check.due("no way to 0", x.fewestValves(2, 0), VacuumSequencer.NONE);
        Check.due("both are vented", x.isVented(0) && x.isVented(2), true);
    }

    /** isVented: at once, behind another chamber, and not through a closed valve. */
    private static void ventedOrNot() {
        VacuumSequencer x = Check.system(TWO + "valve 0 1 1 0;valve 1 out 1 0;");
        parts("isVented", 1, x::isVented);
        Check.due("all closed", x.isVented(0) || x.isVented(1), false);
        x.open(0);
        Check.due("joined, but not vented", x.isVented(0) || x.isVented(1), false);
        x.open(1);
        Check.due("vented", x.isVented(0) && x.isVented(1), true);
        x.close(0);
        Check.due("cut off", x.isVented(0), false);
        Check.due("at the outside still", x.isVented(1), true);
        Check.due("without valves", Check.system(ONE).isVented(0), false);
    }

    /** spread: "the greatest minus the least pressure of all chambers that are joined", the chamber alone too. */
    private static void spreads() {
        VacuumSequencer x = Check.system("chamber 1 9 1;chamber 1 4 1;chamber 1 0 0;chamber 1 5 1;"
                + "valve 0 2 1 9;valve 2 1 1 9;");
        parts("spread", 3, x::spread);
        x.pass(1);
        Check.due("alone", x.spread(0), 0);
        x.open(1);
        Check.due("two", x.spread(1), 4);
        x.open(0);
        for (int c = 0; c < 3; c++) {
            Check.due("three, from " + c, x.spread(c), 9);
        }
        Check.due("the other one", x.spread(3), 0);
        VacuumSequencer y = Check.system("chamber 1 5 1;".repeat(8) + "valve 7 out 1 5;valve 7 0 1 0;");
        y.pass(1);
        y.open(0);
        Check.due("the outside is none of them", y.spread(7), 0);
        y.open(1);
        Check.due("nor with a chamber more", y.spread(7), 0);
    }

    /** fewestValves: "0 to the same chamber"; "NONE if there is no way"; "open or closed". */
    private static void fewestWays() {
        VacuumSequencer x = Check.system(ONE.repeat(4) + "valve 0 1 1 0;valve 1 2 1 0;valve 2 0 1 0;");
        for (int c = 0; c < 4; c++) {
            Check.due("from " + c + " to itself", x.fewestValves(c, c), 0);
        }
        Check.due("the shorter way of two", x.fewestValves(0, 2), 1);
        Check.due("and back", x.fewestValves(2, 0), 1);
        Check.due("no way", x.fewestValves(3, 0), VacuumSequencer.NONE);
        Check.due("no way back", x.fewestValves(0, 3), VacuumSequencer.NONE);
        x.open(2);
        Check.due("through an open one", x.fewestValves(0, 2), 1);
        Check.due("a single chamber", Check.system(ONE).fewestValves(0, 0), 0);
    }

    /** fewestValves: "or NONE for the outside". */
    private static void fewestToTheOutside() {
        VacuumSequencer x = Check.system(ONE.repeat(3) + "valve 0 out 1 0;valve 0 1 1 0;");
        Check.due("at once", x.fewestValves(0, VacuumSequencer.NONE), 1);
        Check.due("behind a chamber", x.fewestValves(1, VacuumSequencer.NONE), 2);
        Check.due("no way", x.fewestValves(2, VacuumSequencer.NONE), VacuumSequencer.NONE);
    }

    /** "if other is below NONE or there is no such chamber". */
    private static void othersOfFewestValves() {
        VacuumSequencer x = Check.system(TWO + "valve 0 1 1 0;");
        parts("fewestValves", 1, c -> x.fewestValves(c, 0));
        Check.due("other is NONE", x.fewestValves(0, -1), VacuumSequencer.NONE);
        Check.due("other is the last one", x.fewestValves(0, 1), 1);
        for (int other : new int[] {-2, 2, Integer.MIN_VALUE, Integer.MAX_VALUE}) {
            Check.throwsArgument("other is " + other, () -> x.fewestValves(0, other));
        }
    }

    /** settled: "the sum of their gas divided by the sum of their volumes", which truncates. */
    private static void settledTruncates() {
        VacuumSequencer x = Check.system("chamber 2 3 1;chamber 1 2 1;chamber 1 1 0;valve 0 1 1 9;");
        parts("settled", 2, x::settled);
        x.pass(1);
        Check.due("alone", x.settled(0), 1000001);
        x.open(0);
        Check.due("3000005 / 3", x.settled(0), 1000001);
        x.setOutgassing(0, 1);
        x.pass(1);
        Check.due("3000006 / 3", x.settled(1), 1000002);
        Check.due("the other one", x.settled(2), 1000002);
        Check.due("a full one", Check.system("chamber 999 0 0;".repeat(8)).settled(7), 1000000);
    }

    /** openable: the empty set and the full one; "the closed valves that may be opened". */
    private static void openableNoneAndAll() {
        Check.due("no parts", new VacuumSequencer().openable(), 0);
        Check.due("no valves", Check.system(ONE).openable(), 0);
        VacuumSequencer x = Check.system("chamber 1 5 1;" + "valve 0 out 1 4;".repeat(9) + "valve 0 out 1 5;");
        Check.due("all ten", x.openable(), 1023);
        x.open(0);
        Check.due("but the open one", x.openable(), 1022);
        x.close(0);
        x.pass(1);
        Check.due("the one at its rule", x.openable(), 512);
        x.setRule(9, 4);
        Check.due("none", x.openable(), 0);
    }

    /** widest: "of several the lowest"; "if no valve is closed". */
    private static void widestOfSeveral() {
        VacuumSequencer x = Check.system("chamber 1 5 1;chamber 1 9 1;valve 0 out 1 9;valve 1 out 1 9;valve 1 out 1 9;"
                + "valve 0 1 1 9;");
        Check.due("of four without a difference", x.widest(), 0);
        x.pass(1);
        Check.due("of two the lowest", x.widest(), 1);
        x.open(1);
        Check.due("the other one", x.widest(), 2);
        x.open(2);
        x.open(0);
        Check.due("the only closed one", x.widest(), 3);
        x.open(3);
        Check.throwsNoSuch("none is closed", x::widest);
        Check.throwsNoSuch("no valves", () -> Check.system(ONE).widest());
        Check.throwsNoSuch("no parts", () -> new VacuumSequencer().widest());
    }

    /** spray: the empty set and the full one; "if the set contains something that is no flange". */
    private static void sprayedSets() {
        VacuumSequencer x = Check.system(FULL);
        int all = (1 << 24) - 1;
        Check.due("the empty set", x.spray(0), 0);
        Check.due("the last flange", x.spray(1 << 23), 9999);
        Check.due("the full set", x.spray(all), 24 * 9999);
        for (int bit = 24; bit < 32; bit++) {
            int set = 1 << bit;
            Check.throwsArgument("bit " + bit, () -> x.spray(set));
            Check.throwsArgument("bit " + bit + " with all flanges", () -> x.spray(set | all));
        }
        Check.throwsArgument("all bits", () -> x.spray(-1));
        VacuumSequencer y = Check.system(ONE + "flange 0 6;");
        Check.due("one flange", y.spray(1), 6);
        Check.throwsArgument("a second one", () -> y.spray(2));
        Check.throwsArgument("no flanges", () -> Check.system(ONE).spray(1));
        Check.due("the empty set of none", Check.system(ONE).spray(0), 0);
    }

    private static void hunt(VacuumSequencer x, int threshold, int sprays, int found) {
        Check.due("sprays of a hunt with " + threshold, x.sprays(0, threshold), sprays);
        Check.due("what a hunt with " + threshold + " finds", x.found(0, threshold), found);
    }

    /** "if the sum is below the threshold, nothing more is done ... Otherwise, if it has one flange, this is found". */
    private static void sumsBelowTheThreshold() {
        VacuumSequencer one = Check.system(ONE + "flange 0 7;");
        hunt(one, 6, 1, 1);
        hunt(one, 7, 1, 1);
        hunt(one, 8, 1, 0);
        VacuumSequencer two = Check.system(ONE + "flange 0 7;flange 0 5;");
        hunt(two, 13, 1, 0);
        hunt(two, 12, 3, 0);
        hunt(two, 8, 3, 0);
        hunt(two, 7, 3, 1);
        hunt(two, 5, 3, 3);
        VacuumSequencer tight = Check.system(ONE + "flange 0 0;flange 0 0;");
        hunt(tight, 1, 1, 0);
    }

    /** sprays, found: "threshold: 1 to 9999"; no such chamber. */
    private static void thresholds() {
        VacuumSequencer x = Check.system(ONE + "flange 0 9999;flange 0 1;");
        hunt(x, 1, 3, 3);
        hunt(x, 9999, 3, 1);
        for (int threshold : new int[] {Integer.MIN_VALUE, -1, 0, 10000, Integer.MAX_VALUE}) {
            Check.throwsArgument("sprays with " + threshold, () -> x.sprays(0, threshold));
            Check.throwsArgument("found with " + threshold, () -> x.found(0, threshold));
        }
        parts("sprays", 0, c -> x.sprays(c, 1));
        parts("found", 0, c -> x.found(c, 1));
    }

    /** "the first half, which has one more if their number is odd": the sprays until one flange of many is found. */
    private static void halvesOfGroups() {
        int[][] due = {{1}, {3, 3}, {5, 5, 3}, {5, 5, 5, 5}, {7, 7, 5, 5, 5}, {7, 7, 5, 7, 7, 5},
            {7, 7, 7, 7, 7, 7, 5}};
        for (int flanges = 1; flanges <= 24; flanges++) {
            for (int leaky = 0; leaky < flanges && flanges <= due.length; leaky++) {
                VacuumSequencer x = Check.system(ONE + "flange 0 0;".repeat(leaky) + "flange 0 1;"
                        + "flange 0 0;".repeat(flanges - leaky - 1));
                hunt(x, 1, due[flanges - 1][leaky], 1 << leaky);
            }
            VacuumSequencer x = Check.system(ONE + "flange 0 1;".repeat(flanges));
            hunt(x, 1, 2 * flanges - 1, (1 << flanges) - 1);
        }
        // Of three the first half has two: it is sprayed in two halves, and the second one alone.
        VacuumSequencer y = Check.system(ONE + "flange 0 3;flange 0 3;flange 0 5;");
        hunt(y, 6, 5, 0);
        hunt(y, 5, 5, 4);
    }

    /** "A chamber without flanges needs no spraying." */
    private static void chamberWithoutFlanges() {
        hunt(Check.system(ONE), 1, 0, 0);
        VacuumSequencer x = Check.system(TWO + "flange 1 9999;".repeat(24));
        hunt(x, 1, 0, 0);
        Check.due("the other chamber", x.sprays(1, 1), 47);
        Check.due("its flanges", x.found(1, 9999), (1 << 24) - 1);
    }

    /** worstFlange: "of several the lowest"; "if there are no flanges". */
    private static void worstOfSeveral() {
        Check.throwsNoSuch("no flanges", () -> Check.system(ONE).worstFlange());
        Check.throwsNoSuch("no parts", () -> new VacuumSequencer().worstFlange());
        Check.due("one", Check.system(ONE + "flange 0 0;").worstFlange(), 0);
        VacuumSequencer x = Check.system(FULL);
        Check.due("of 24", x.worstFlange(), 0);
        for (int f = 0; f < 23; f++) {
            x.setLeak(f, 9998);
            Check.due("of the rest", x.worstFlange(), f + 1);
        }
        x.setLeak(23, 9998);
        Check.due("of 24 again", x.worstFlange(), 0);
    }

    /** "The report is empty at first"; a report without chambers has no line. */
    private static void emptyReports() {
        VacuumSequencer x = new VacuumSequencer();
        Check.throwsIndex("no byte at first", () -> x.reportByte(0));
        Check.due("a report without chambers", x.writeReport(), 0);
        Check.throwsIndex("no byte of it", () -> x.reportByte(0));
        VacuumSequencer y = Check.system(ONE);
        Check.throwsIndex("no byte of a system without a report", () -> y.reportByte(0));
        y.pass(1);
        Check.throwsIndex("no byte of a system that has run", () -> y.reportByte(0));
        Check.due("a report", y.writeReport(), 18);
    }

    /** "All numbers are decimal": the greatest and the least pressure of each number of digits. */
    private static void digitsOfTheReport() {
        for (int pressure : new int[] {0, 1, 9, 10, 99, 100, 999, 1000, 9999, 10000, 99999, 100000, 999999, 1000000}) {
            VacuumSequencer x = Check.system("chamber 1 0 0;pump 0 out 1 " + pressure + " 1000000;");
            x.start(0);
            x.pass(1);
            Check.due("the report", Check.report(x), "chamber 0 " + pressure + " p0\n");
        }
    }

    /** Eight lines with ten digits each and both ends of ten valves. */
    private static void fullReport() {
        StringBuilder text = new StringBuilder("chamber 1 9999 0;".repeat(8));
        for (int v = 0; v < 10; v++) {
            text.append("valve ").append(v % 8).append(' ').append((v + 1) % 8).append(" 1 0;");
        }
        VacuumSequencer x = Check.system(text.toString());
        Check.due("99900 ticks", Check.recipe(x, "wait 999;".repeat(100)), 100);
        x.pass(10);
        Check.due("gas", x.gas(7), 1000000090);
        x.pass(999);
        Check.due("and no more", x.gas(7), 1000000090);
        for (int v = 0; v < 10; v++) {
            x.open(v);
        }
        StringBuilder due = new StringBuilder();
        String[] valves = {" v0 v7 v8", " v0 v1 v8 v9", " v1 v2 v9", " v2 v3", " v3 v4", " v4 v5", " v5 v6", " v6 v7"};
        for (int c = 0; c < 8; c++) {
            due.append("chamber ").append(c).append(" 1000000090").append(valves[c]).append('\n');
        }
        Check.due("the report", Check.report(x), due.toString());
        Check.due("its length", x.writeReport(), 8 * 21 + 20 * 3);
    }

    /** reportByte: "0 is the first"; "if there is no such byte"; "in place of the previous one". */
    private static void bytesOfTheReport() {
        VacuumSequencer x = Check.system(ONE + "pump 0 out 1 0 1000000;valve 0 out 1 0;");
        x.open(0);
        x.start(0);
        Check.due("a long line", Check.report(x), "chamber 0 1000000 v0 p0\n");
        parts("reportByte", 23, x::reportByte);
        x.close(0);
        x.pass(1);
        Check.due("the pressure 0", Check.report(x), "chamber 0 0 p0\n");
        parts("reportByte of a shorter one", 14, x::reportByte);
        Check.due("the first byte", x.reportByte(0), 'c');
        Check.due("the last byte", x.reportByte(14), 10);
        Check.put(x, TWO);
        x.parseSystem();
        Check.due("a new system leaves it", x.reportByte(14), 10);
        Check.due("two lines", x.writeReport(), 36);
    }
}
