/** Promises 44 to 47: leak hunts. */
public final class HuntTest {
    public static void main(String[] args) {
        spraying();
        hunts();
        longHunts();
        worst();
        Check.end();
    }

    private static void spraying() {
        VacuumSequencer x = Check.system("chamber 1 0 0;chamber 1 0 0;"
                + "flange 0 1;flange 1 20;flange 0 300;flange 1 4000;");
        Check.due("spray(0)", x.spray(0), 0);
        Check.due("spray(1)", x.spray(1), 1);
        Check.due("spray(10)", x.spray(10), 4020);
        Check.due("spray(15)", x.spray(15), 4321);
        Check.throwsArgument("spray(16)", () -> x.spray(16));
        Check.throwsArgument("spray(17)", () -> x.spray(17));
        Check.throwsArgument("spray(-1)", () -> x.spray(-1));
        Check.throwsArgument("spray(MIN)", () -> x.spray(Integer.MIN_VALUE));
        x.seal(3);
        Check.due("spray after seal", x.spray(15), 321);
        VacuumSequencer y = Check.system("chamber 1 0 0;");
        Check.due("spray(0) without flanges", y.spray(0), 0);
        Check.throwsArgument("spray(1) without flanges", () -> y.spray(1));
        VacuumSequencer z = Check.system("chamber 1 0 0;" + "flange 0 9999;".repeat(24));
        Check.due("spray of 24", z.spray((1 << 24) - 1), 24 * 9999);
        Check.throwsArgument("spray(1 << 24)", () -> z.spray(1 << 24));
    }

    private static void hunt(VacuumSequencer x, int chamber, int threshold, int sprays, int found) {
        Check.due("sprays(" + chamber + ", " + threshold + ")", x.sprays(chamber, threshold), sprays);
        Check.due("found(" + chamber + ", " + threshold + ")", x.found(chamber, threshold), found);
    }

    private static void hunts() {
        VacuumSequencer x = Check.system("chamber 1 0 0;chamber 1 0 0;chamber 1 0 0;"
                + "flange 1 5;flange 0 8;flange 1 0;flange 1 3;flange 1 9;flange 1 1;");
        Check.throwsIndex("sprays(-1, 0)", () -> x.sprays(-1, 0));
        Check.throwsIndex("sprays(3, 1)", () -> x.sprays(3, 1));
        Check.throwsArgument("sprays(0, 0)", () -> x.sprays(0, 0));
        Check.throwsArgument("sprays(0, 10000)", () -> x.sprays(0, 10000));
        Check.throwsIndex("found(-1, 0)", () -> x.found(-1, 0));
        Check.throwsIndex("found(3, 1)", () -> x.found(3, 1));
        Check.throwsArgument("found(0, 0)", () -> x.found(0, 0));
        Check.throwsArgument("found(2, 10000)", () -> x.found(2, 10000));
        // Chamber 1 has the flanges 0, 2, 3, 4, 5: halves (0, 2, 3) and (4, 5), then (0, 2), (3), and so on.
        hunt(x, 2, 1, 0, 0);
        hunt(x, 0, 8, 1, 2);
        hunt(x, 0, 9, 1, 0);
        hunt(x, 1, 19, 1, 0);
        hunt(x, 1, 18, 3, 0);
        hunt(x, 1, 9, 5, 16);
        hunt(x, 1, 8, 7, 16);
        hunt(x, 1, 5, 9, 17);
        hunt(x, 1, 3, 9, 25);
        hunt(x, 1, 1, 9, 57);
        hunt(x, 1, 9999, 1, 0);
        Check.due("found(0, 8) behind it", x.found(0, 8), 2);
        Check.due("sprays(2, 8) behind it", x.sprays(2, 8), 0);
        Check.due("found(1, 9) behind it", x.found(1, 9), 16);
        x.seal(4);
        hunt(x, 1, 3, 7, 9);
        Check.due("a hunt is no change", x.undoDepth(), 1);
    }

    private static void longHunts() {
        VacuumSequencer x = Check.system("chamber 1 0 0;" + "flange 0 9999;".repeat(24));
        hunt(x, 0, 9999, 47, (1 << 24) - 1);
        hunt(x, 0, 1, 47, (1 << 24) - 1);
        for (int f = 0; f < 23; f++) {
            x.seal(f);
        }
        // 24 (12, 12): 12 (6, 6): 6 (3, 3): 3 (2, 1): the last one.
        hunt(x, 0, 9999, 9, 1 << 23);
        x.seal(23);
        hunt(x, 0, 1, 1, 0);
        x.setLeak(0, 1);
        // 24 (12, 12): 12 (6, 6): 6 (3, 3): 3 (2, 1): 2 (1, 1).
        hunt(x, 0, 1, 11, 1);
    }

    private static void worst() {
        VacuumSequencer x = Check.system("chamber 1 0 0;flange 0 4;flange 0 9;flange 0 9;flange 0 1;");
        Check.due("worstFlange", x.worstFlange(), 1);
        x.seal(1);
        Check.due("worstFlange after seal", x.worstFlange(), 2);
        x.setLeak(3, 10);
        Check.due("worstFlange at the end", x.worstFlange(), 3);
        VacuumSequencer y = Check.system("chamber 1 0 0;flange 0 0;flange 0 0;");
        Check.due("worstFlange of tight ones", y.worstFlange(), 0);
        VacuumSequencer z = Check.system("chamber 1 0 0;");
        Check.throwsNoSuch("worstFlange of none", z::worstFlange);
    }
}
