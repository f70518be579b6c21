import java.lang.reflect.InvocationTargetException;
import java.lang.reflect.Method;
import java.util.ArrayList;
import java.util.List;
import java.util.Random;
import java.util.TreeMap;

/** Lets the program and PlainModel answer the same calls, in runs from fixed seeds. An argument: the number of runs. */
public final class RandomRunsTest {
    /** An object is promised to answer 512 calls: a turn of the loop makes fewer than the rest. */
    private static final int CALLS_OF_A_RUN = 440;

    /** A method and the kinds of its arguments; how often it is called, by the times it stands here. */
    private static final String[] CALLS = {
        "open V", "open V", "open V", "close V", "start P", "start P", "start P", "start P", "stop P", "stop P",
        "pass t", "pass t", "passUntil C p", "seal F", "setLeak F l", "setOutgassing C l", "setRule V p",
        "setRule V p", "test C e", "test C e", "count w", "chamber C w", "chamber C w", "gas C", "pump P w",
        "valve V w", "flange F w", "rise a w", "riseGas a b", "mayOpen V", "mayStart P", "joined C", "isVented C",
        "spread C", "isIsolated C", "fewestValves C o", "settled C", "openable", "widest", "pressureAfter C t",
        "lowest C t", "ticksTo C p", "tripsIn t", "meanPressure C t", "bestPump C t", "bestValve C t", "spray s",
        "sprays C h", "found C h", "worstFlange", "writeReport", "reportByte i", "undo", "undo", "undoDepth",
        "errorCode", "errorPosition", "truncateText n", "SYSTEM", "RECIPE", "RECIPE"
    };

    private final Random random;
    private final VacuumSequencer program = new VacuumSequencer();
    private final PlainModel model = new PlainModel();
    private final List<String> told = new ArrayList<>();
    private final TreeMap<String, int[]> tally;
    private final int run;
    private int calls = 0;

    private RandomRunsTest(int run, TreeMap<String, int[]> tally) {
        this.run = run;
        this.tally = tally;
        random = new Random(run);
    }

    public static void main(String[] args) throws Exception {
        int runs = args.length > 0 ? Integer.parseInt(args[0]) : 400;
        TreeMap<String, int[]> tally = new TreeMap<>();
        for (int run = 0; run < runs && Check.failed < 5; run++) {
            new RandomRunsTest(run, tally).go();
        }
        for (String name : tally.keySet()) {
            if (args.length > 1) {
                System.out.println(name + ": " + tally.get(name)[0] + " answered, " + tally.get(name)[1] + " thrown");
            }
            Check.due("calls of " + name + " that answered", tally.get(name)[0] > 0, true);
        }
        Check.end();
    }

    private void go() throws Exception {
        if (random.nextInt(8) != 0) {
            put(system());
            call("parseSystem");
            startMost();
        }
        while (calls < CALLS_OF_A_RUN && Check.failed < 5) {
            String[] call = CALLS[random.nextInt(CALLS.length)].split(" ");
            if (call[0].equals("SYSTEM")) {
                if (model.count(0) > 0 && random.nextInt(4) != 0) {
                    continue;
                }
                put(random.nextInt(3) == 0 ? system() : spoilt(system()));
                call("parseSystem");
            } else if (call[0].equals("RECIPE")) {
                put(random.nextInt(4) == 0 ? spoilt(recipe()) : recipe());
                call("runRecipe");
            } else {
                Object[] values = new Object[call.length - 1];
                for (int i = 0; i < values.length; i++) {
                    values[i] = value(call[i + 1].charAt(0));
                }
                call(call[0], values);
            }
            if ("pass passUntil test RECIPE undo SYSTEM".contains(call[0])) {
                for (int c = 0; c < model.count(0); c++) {
                    call("gas", c);
                }
                call("count", 4 + random.nextInt(4));
            }
        }
    }

    /** Later most pressures are too high for it. */
    private void startMost() throws Exception {
        for (int p = 0; p < model.count(1); p++) {
            if (random.nextInt(4) != 0) {
                call("start", p);
            }
        }
        for (int v = 0; v < model.count(2); v++) {
            if (random.nextInt(4) == 0) {
                call("open", v);
            }
        }
    }

    private void call(String name, Object... values) throws Exception {
        calls++;
        String call = name + java.util.Arrays.toString(values);
        String got = answer(program, name, values);
        String want = answer(model, name, values);
        told.add(call + " -> " + want);
        tally.computeIfAbsent(name, n -> new int[2])[want.startsWith("throws") ? 1 : 0]++;
        if (!got.equals(want)) {
            System.out.println("run " + run + ":");
            told.forEach(System.out::println);
        }
        Check.due(call, got, want);
    }

    private static String answer(Object on, String name, Object[] values) throws Exception {
        for (Method m : on.getClass().getDeclaredMethods()) {
            if (m.getName().equals(name) && java.lang.reflect.Modifier.isPublic(m.getModifiers())) {
                try {
                    return String.valueOf(m.invoke(on, values));
                } catch (InvocationTargetException e) {
                    return "throws " + e.getCause().getClass().getName();
                }
            }
        }
        throw new IllegalStateException("no method " + name);
    }

    private void put(String text) throws Exception {
        for (int from = 0; from < text.length(); from += 20) {
            Object[] words = new Object[5];
            for (int w = 0; w < 5; w++) {
                int word = 0;
                for (int i = 0; i < 4; i++) {
                    int at = from + w * 4 + i;
                    word = word << 8 | (at < text.length() ? text.charAt(at) : ' ');
                }
                words[w] = word;
            }
            call("appendText", words);
        }
        if (text.length() % 20 != 0) {
            call("truncateText", Math.min(900, text.length()));
        }
    }

    private int index(int number) {
        return random.nextInt(25) == 0 ? (random.nextBoolean() ? -1 : number) : random.nextInt(Math.max(1, number));
    }

    private int bound(int least, int greatest) {
        int[] edges = {least, greatest, least - 1, greatest + 1, least + 1, greatest - 1, -5, Integer.MAX_VALUE};
        return random.nextInt(6) == 0 ? edges[random.nextInt(8)] : least + random.nextInt(greatest - least + 1);
    }

    private int few(int least, int greatest) {
        return random.nextInt(3) == 0 ? bound(least, greatest) : 1 + random.nextInt(20);
    }

    private int pressure() {
        if (random.nextBoolean() && model.count(0) > 0) {
            return model.chamber(random.nextInt(model.count(0)), 3) - random.nextInt(3) * random.nextInt(2000);
        }
        return random.nextBoolean() ? bound(0, 1000000) : 1000000 - random.nextInt(1 << random.nextInt(20));
    }

    private Object value(char kind) {
        switch (kind) {
            case 'C': return index(model.count(0));
            case 'P': return index(model.count(1));
            case 'V': return index(model.count(2));
            case 'F': return index(model.count(3));
            case 'o': return random.nextInt(model.count(0) + 3) - 2;
            case 't': return few(1, 999);
            case 'e': return random.nextInt(4) == 0 ? few(2, 998) : 2 * (1 + random.nextInt(12));
            case 'p': return pressure();
            case 'l': return random.nextBoolean() ? random.nextInt(30) : bound(0, 9999);
            case 'w': return random.nextInt(10) - 1;
            case 'a': return random.nextInt(4) == 0 ? random.nextInt(13) - 1 : index(model.count(7));
            case 'b': return random.nextBoolean();
            case 's': return random.nextInt(9) == 0 ? random.nextInt() : random.nextInt(1 << model.count(3));
            case 'h': return random.nextBoolean() ? 1 + random.nextInt(30) : bound(1, 9999);
            case 'i': return random.nextInt(70) - 2;
            default: return random.nextInt(3) - 1;
        }
    }

    private String blank() {
        return random.nextInt(12) == 0 ? " \n".substring(random.nextInt(2)) : "";
    }

    private String system() {
        StringBuilder all = new StringBuilder(blank());
        int chambers = random.nextInt(10) == 0 ? 8 + random.nextInt(2) : 1 + random.nextInt(6);
        for (int c = 0; c < chambers; c++) {
            int volume = random.nextBoolean() ? 1 + random.nextInt(20) : 1 + random.nextInt(999);
            int outgassing = random.nextInt(random.nextInt(4) != 0 ? 1 + random.nextInt(50) : 10000);
            all.append("chamber ").append(volume).append(' ').append(outgassing);
            all.append(' ').append(random.nextInt(3) * random.nextInt(20)).append(blank()).append(";");
        }
        for (int p = random.nextInt(random.nextInt(9) == 0 ? 8 : 7); p > 0; p--) {
            int chamber = random.nextInt(chambers);
            int exhaust = random.nextInt(chambers);
            boolean out = random.nextInt(3) == 0 || (exhaust == chamber && random.nextInt(99) != 0);
            int low = random.nextInt(random.nextInt(4) != 0 ? 500 : 1000001);
            int high = random.nextBoolean() ? 1000000 : low + random.nextInt(1000001 - low);
            all.append("pump ").append(chamber).append(' ').append(out ? "out" : "" + exhaust);
            all.append(' ').append(1 + random.nextInt(random.nextBoolean() ? 10 : 999));
            all.append(' ').append(low).append(' ').append(high);
            all.append(out ? "" : " " + (1000000 - random.nextInt(2) * random.nextInt(1000001))).append(";");
        }
        for (int v = random.nextInt(random.nextInt(9) == 0 ? 12 : 8); v > 0; v--) {
            int chamber = random.nextInt(chambers);
            int other = random.nextInt(chambers);
            boolean out = random.nextInt(4) == 0 || (other == chamber && random.nextInt(99) != 0);
            all.append("valve ").append(chamber).append(' ').append(out ? "out" : "" + other);
            all.append(' ').append(1 + random.nextInt(random.nextBoolean() ? 10 : 999));
            all.append(' ').append(1000000 >> random.nextInt(6)).append(";").append(blank());
        }
        for (int f = random.nextInt(random.nextInt(9) == 0 ? 27 : 12); f > 0; f--) {
            int leak = random.nextInt(3) == 0 ? random.nextInt(10000) : random.nextInt(30);
            all.append("flange ").append(random.nextInt(chambers)).append(' ').append(leak).append(";");
        }
        return all.append(blank()).toString();
    }

    private String recipe() {
        StringBuilder all = new StringBuilder(blank());
        for (int s = random.nextInt(5); s > 0; s--) {
            String[] steps = {"open V", "close V", "start P", "stop P", "wait t", "until C p", "seal F", "test C e"};
            for (String part : steps[random.nextInt(8)].split(" ")) {
                if (part.length() == 1) {
                    int value = (Integer) value(part.charAt(0));
                    all.append(' ').append(value < 0 || value > 9999999 ? 0 : value);
                } else {
                    all.append(part);
                }
            }
            all.append(blank()).append(';').append(blank());
        }
        return all.toString();
    }

    /** Changes, drops or adds a sign or two of a text, or takes its end away. */
    private String spoilt(String text) {
        StringBuilder all = new StringBuilder(text);
        for (int i = random.nextInt(2); i >= 0 && all.length() > 0; i--) {
            int at = random.nextInt(all.length());
            char sign = " ;\n0919zoae\t\u00e9A-".charAt(random.nextInt(15));
            switch (random.nextInt(5)) {
                case 0 -> all.setCharAt(at, sign);
                case 1 -> all.deleteCharAt(at);
                case 2 -> all.insert(at, sign);
                case 3 -> all.setLength(at);
                default -> all.insert(at, "0000000".substring(random.nextInt(7)));
            }
        }
        return all.toString();
    }
}
