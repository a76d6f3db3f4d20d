import java.lang.reflect.InvocationTargetException;
import java.lang.reflect.Method;
import java.util.ArrayList;
import java.util.List;
import java.util.Random;

/**
 * All promises: runs of 512 calls, drawn with a fixed seed, on a RadioNet and on the second model. What
 * they answer must be the same. A second argument sets the number of runs, a third one the seed.
 */
public final class ModelTest {
    private static final String ADDING = "addStation LDXYPC";
    /**
     * The calls and what is drawn for their arguments: a Letter, Digit, X, Y, Power, Channel, Station,
     * Minutes, Rank, place Q in a line, log Entry, Index of a character. A call stands as often as it is
     * to be drawn.
     */
    private static final String[] CALLS = {
        ADDING, ADDING, "move SXY", "setPower SP", "tune SC",
        "request S", "request S", "request S", "request S", "release S", "cancel S", "setTurnLimit M",
        "pass M", "pass M", "stations", "find LD", "letter S", "digit S", "channel S", "power S",
        "isSpeaking S", "isWaiting S", "minutesSpoken S", "minutesReceived S", "stationByMinutes R",
        "speaker C", "lineLength C", "waiting CQ", "minutesUntilTurn S",
        "minutesUntilTurnBySimulation S", "canHear SS", "isJammed S", "jams", "jamsByChannels",
        "hops SS", "hopsBySets SS", "reachable S", "logLength", "logStation E", "logBegin E",
        "logMinutes E", "time", "turnLimit", "meanPower", "airtime", "isConsistent", "writeStation S",
        "writeChannel C", "charAt I", "charAt I", "errorPosition", "failedCommand", "undo", "undo",
        "save", "restore",
    };
    private static final String[] PATTERNS = {
        "station LD X,Y P C", "move S X,Y", "power S=P", "tune S=C", "call S", "call S", "over S",
        "cancel S", "limit M", "wait M", "wait",
    };
    private static final int[] UNUSUAL = {
        -1, 0, 1, 7, 8, 9, 10, 15, 16, 59, 60, 61, 98, 99, 100, Integer.MIN_VALUE, Integer.MAX_VALUE,
        -100, 1 << 16, 46341, -46341, 256, 32,
    };

    private final Random random;
    // What this run of calls is about: few channels have long lines, flat nets have many hops.
    private int channels;
    private int width;
    private int height;
    private int reach;
    private RadioNet net;
    private Model model;
    private int calls;
    private List<String> told;

    private ModelTest(long seed) {
        random = new Random(seed);
    }

    public static void main(String[] args) throws Exception {
        int runs = args.length > 1 ? Integer.parseInt(args[1]) : 400;
        ModelTest test = new ModelTest(args.length > 2 ? Long.parseLong(args[2]) : 52);
        boolean agree = true;
        for (int i = 0; i < runs && agree; i++) {
            agree = test.run();
        }
        Check.same("all answers of RadioNet and of the model agree", true, agree);
        Check.end();
    }

    private boolean run() throws Exception {
        net = new RadioNet();
        model = new Model();
        calls = 0;
        told = new ArrayList<>();
        channels = 1 + random.nextInt(random.nextBoolean() ? 2 : 5);
        width = 1 + random.nextInt(random.nextBoolean() ? 100 : 20);
        height = random.nextBoolean() ? 1 : width;
        reach = Math.min(99, 1 + random.nextInt(2 * width));
        boolean agree = true;
        for (int i = random.nextInt(30); i > 0 && agree; i--) {
            agree = call(ADDING);
        }
        while (calls < 512 && agree) {
            agree = random.nextInt(40) == 0 ? program() : call(CALLS[random.nextInt(CALLS.length)]);
        }
        if (!agree) {
            told.forEach(System.out::println);
        }
        return agree;
    }

    private boolean call(String call) throws Exception {
        String[] parts = call.split(" ");
        List<Object> arguments = new ArrayList<>();
        for (int i = 0; parts.length > 1 && i < parts[1].length(); i++) {
            char kind = parts[1].charAt(i);
            int value = random.nextInt(30) == 0
                    ? UNUSUAL[random.nextInt(UNUSUAL.length)] : usual(kind);
            arguments.add(kind == 'L' ? (Object) (char) value : (Object) value);
        }
        return same(parts[0], arguments.toArray());
    }

    private int usual(char kind) {
        return switch (kind) {
            case 'L' -> 'A' + random.nextInt(random.nextBoolean() ? 3 : 26);
            case 'D' -> random.nextInt(random.nextBoolean() ? 2 : 10);
            case 'X' -> random.nextInt(width);
            case 'Y' -> random.nextInt(height);
            case 'P' -> 1 + random.nextInt(random.nextInt(4) == 0 ? 99 : reach);
            case 'C' -> 9 - random.nextInt(channels);
            case 'S' -> random.nextInt(Math.min(8, model.stations() + 1));
            case 'M' -> 1 + random.nextInt(random.nextInt(4) == 0 ? 60 : 6);
            case 'R' -> random.nextInt(model.stations() + 1);
            case 'Q' -> random.nextInt(4);
            case 'E' -> random.nextInt(model.logLength() + 1);
            default -> random.nextInt(12);
        };
    }

    private boolean program() throws Exception {
        StringBuilder text = new StringBuilder();
        int commands = 1 + random.nextInt(random.nextBoolean() ? 3 : 7);
        for (int i = 0; i < commands; i++) {
            text.append(i == 0 ? "" : ";");
            for (char part : PATTERNS[random.nextInt(PATTERNS.length)].toCharArray()) {
                append(text, part);
            }
        }
        int spoilt = random.nextInt(3) == 0 ? 1 + random.nextInt(2) : 0;
        for (int i = 0; i < spoilt; i++) {
            spoil(text);
        }
        boolean agree = true;
        for (int i = 0; i < text.length() && agree && calls < 512; i++) {
            agree = same("type", text.charAt(i));
        }
        // Sometimes a program is left in the buffer, so that others are typed behind it.
        for (String call : List.of("run", "errorPosition", "failedCommand")) {
            agree = agree && (calls >= 512 || random.nextInt(8) == 0 || same(call));
        }
        return agree;
    }

    private void append(StringBuilder text, char part) {
        if (part == 'L') {
            text.append((char) usual(part));
        } else if ("SC".indexOf(part) >= 0 || part == 'D') {
            text.append(usual(part));
        } else if ("XYPM".indexOf(part) >= 0) {
            int value = random.nextInt(30) == 0 ? random.nextInt(100) : usual(part);
            text.append(value < 10 && random.nextInt(4) == 0 ? "0" : "").append(value);
        } else {
            text.append(part);
        }
    }

    private void spoil(StringBuilder text) {
        String characters = "0123456789;, =acelmoprtvwsinu AKZ[@/:\u0000\uFFFF\u0660";
        char character = characters.charAt(random.nextInt(characters.length()));
        int at = random.nextInt(text.length() + 1);
        switch (random.nextInt(4)) {
            case 0 -> text.setLength(at);
            case 1 -> text.insert(at, character);
            case 2 -> text.replace(at, Math.min(at + 1, text.length()), "" + character);
            default -> text.replace(at, Math.min(at + 1, text.length()), "");
        }
    }

    /** Whether both answer the same, or throw the same. */
    private boolean same(String name, Object... arguments) throws Exception {
        String due = outcome(model, name, arguments);
        String got = outcome(net, name, arguments);
        calls++;
        told.add(calls + ": " + name + " " + List.of(arguments) + " answered " + got + ", due is " + due);
        return due.equals(got);
    }

    private static String outcome(Object asked, String name, Object[] arguments) throws Exception {
        for (Method method : asked.getClass().getDeclaredMethods()) {
            if (method.getName().equals(name)) {
                try {
                    return String.valueOf(method.invoke(asked, arguments));
                } catch (InvocationTargetException e) {
                    return "throws " + e.getCause().getClass().getName();
                }
            }
        }
        return "no such method";
    }
}
