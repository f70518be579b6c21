/** What the tests share: counted checks, calls that are due to throw, and texts put into the buffer. */
final class Check {
    static int passed = 0;
    static int failed = 0;

    interface Call {
        void make();
    }

    /** What is done to an object: its past, or the one call that a test is about. */
    interface Deed {
        void on(VacuumSequencer x);
    }

    static void due(String what, double got, double want) {
        if (got == want) {
            passed++;
        } else {
            failed++;
            System.out.println(what + " answered " + got + ", due is " + want);
        }
    }

    static void due(String what, boolean got, boolean want) {
        due(what, got ? 1 : 0, want ? 1 : 0);
    }

    static void due(String what, String got, String want) {
        if (got.equals(want)) {
            passed++;
        } else {
            failed++;
            System.out.println(what + " answered <" + got + ">, due is <" + want + ">");
        }
    }

    static void throwsIndex(String what, Call call) {
        dueThrow(what, IndexOutOfBoundsException.class, call);
    }

    static void throwsArgument(String what, Call call) {
        dueThrow(what, IllegalArgumentException.class, call);
    }

    static void throwsState(String what, Call call) {
        dueThrow(what, IllegalStateException.class, call);
    }

    static void throwsNoSuch(String what, Call call) {
        dueThrow(what, java.util.NoSuchElementException.class, call);
    }

    private static void dueThrow(String what, Class<?> want, Call call) {
        Class<?> got = null;
        try {
            call.make();
        } catch (RuntimeException e) {
            got = e.getClass();
        }
        if (got == want) {
            passed++;
        } else {
            failed++;
            System.out.println(what + " threw " + got + ", due is " + want);
        }
    }

    /** Puts a text into the buffer, behind what is there. */
    static void put(VacuumSequencer x, String text) {
        int length = 0;
        for (int from = 0; from < text.length(); from += 20) {
            int[] word = new int[5];
            for (int i = 0; i < 20; i++) {
                int sign = from + i < text.length() ? text.charAt(from + i) : ' ';
                word[i / 4] |= sign << (24 - i % 4 * 8);
            }
            length = x.appendText(word[0], word[1], word[2], word[3], word[4]);
        }
        x.truncateText(length - (20 - text.length() % 20) % 20);
    }

    static VacuumSequencer system(String text) {
        VacuumSequencer x = new VacuumSequencer();
        put(x, text);
        if (x.parseSystem() < 1) {
            throw new IllegalStateException("wrong system text at " + x.errorPosition() + ": " + text);
        }
        return x;
    }

    /** A new object with a past. */
    static VacuumSequencer after(Deed... past) {
        VacuumSequencer x = new VacuumSequencer();
        for (Deed deed : past) {
            deed.on(x);
        }
        return x;
    }

    /** The deed of reading a system text. */
    static Deed reading(String text) {
        return x -> {
            put(x, text);
            x.parseSystem();
        };
    }

    static int recipe(VacuumSequencer x, String text) {
        put(x, text);
        return x.runRecipe();
    }

    static String report(VacuumSequencer x) {
        StringBuilder all = new StringBuilder();
        int length = x.writeReport();
        for (int i = 0; i < length; i++) {
            all.append((char) x.reportByte(i));
        }
        return all.toString();
    }

    /** The parts of the system, the time and the tests, so that a state can be held against another one. */
    static String state(VacuumSequencer x) {
        StringBuilder all = new StringBuilder();
        for (int what = 0; what < 8; what++) {
            all.append(x.count(what)).append(' ');
        }
        for (int c = 0; c < x.count(0); c++) {
            all.append("\nchamber ").append(x.gas(c));
            for (int what = 0; what < 7; what++) {
                all.append(' ').append(x.chamber(c, what));
            }
        }
        for (int p = 0; p < x.count(1); p++) {
            all.append("\npump");
            for (int what = 0; what < 8; what++) {
                all.append(' ').append(x.pump(p, what));
            }
        }
        for (int v = 0; v < x.count(2); v++) {
            all.append("\nvalve");
            for (int what = 0; what < 7; what++) {
                all.append(' ').append(x.valve(v, what));
            }
        }
        for (int f = 0; f < x.count(3); f++) {
            all.append("\nflange ").append(x.flange(f, 0)).append(' ').append(x.flange(f, 1));
        }
        for (int ago = 0; ago < x.count(7); ago++) {
            all.append("\ntest ").append(x.riseGas(ago, false)).append(' ').append(x.riseGas(ago, true));
            for (int what = 0; what < 4; what++) {
                all.append(' ').append(x.rise(ago, what));
            }
        }
        return all.toString();
    }

    /** All that can be asked without a change of the buffer and the report. */
    static String view(VacuumSequencer x) {
        return state(x) + "\nerror " + x.errorCode() + ' ' + x.errorPosition() + "\nundo " + x.undoDepth();
    }

    /** Tells the number of checks and ends the machine with 1 if one failed. */
    static void end() {
        System.out.println("checks: " + passed + " good, " + failed + " bad");
        if (failed != 0) {
            System.exit(1);
        }
    }
}
