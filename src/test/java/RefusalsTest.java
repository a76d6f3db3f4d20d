import java.util.NoSuchElementException;

/**
 * Every 'Throws' line, on a net in which everything is kept that can be kept: the refused call throws
 * the exception that is listed first of those whose conditions hold, and changes nothing.
 */
public final class RefusalsTest {
    private static final Class<?> ARGUMENT = IllegalArgumentException.class;
    private static final Class<?> ELEMENT = NoSuchElementException.class;
    private static final Class<?> INDEX = IndexOutOfBoundsException.class;
    private static final Class<?> STATE = IllegalStateException.class;
    private static final Class<?> UNSUPPORTED = UnsupportedOperationException.class;

    private static final int[] NO_STATIONS = {-1, 8, Integer.MIN_VALUE, Integer.MAX_VALUE};
    private static final int[] NO_CHANNELS = {-1, 10, Integer.MIN_VALUE, Integer.MAX_VALUE};

    public static void main(String[] args) {
        addStation();
        addStationToAFreePlace();
        move();
        setPower();
        tune();
        turns();
        minutes();
        properties();
        channels();
        minutesUntilTurn();
        hearing();
        log();
        statistics();
        output();
        type();
        run();
        records();
        undoAndRestore();
        questionsChangeNothing();
        Check.end();
    }

    private static void refusesStation(Class<?> due, Net net, char letter, int... values) {
        Check.refuses("addStation", due, net, () -> net.addStation(
                letter, values[0], values[1], values[2], values[3], values[4]));
    }

    /** Argument out of range, then the call sign, then the 8 stations. */
    private static void addStation() {
        Net net = Nets.busy();
        refusesStation(STATE, net, 'X', 1, 0, 0, 1, 0);
        refusesStation(UNSUPPORTED, net, 'K', 7, 0, 0, 1, 0);
        refusesStation(UNSUPPORTED, net, 'G', 6, 0, 0, 1, 0);
        for (char letter : new char[] {'K', 'X'}) {
            refusesStation(ARGUMENT, net, letter, 7, -1, 0, 1, 0);
            refusesStation(ARGUMENT, net, letter, 7, 100, 0, 1, 0);
            refusesStation(ARGUMENT, net, letter, 7, 0, -1, 1, 0);
            refusesStation(ARGUMENT, net, letter, 7, 0, 100, 1, 0);
            refusesStation(ARGUMENT, net, letter, 7, 0, 0, 0, 0);
            refusesStation(ARGUMENT, net, letter, 7, 0, 0, 100, 0);
            refusesStation(ARGUMENT, net, letter, 7, 0, 0, 1, -1);
            refusesStation(ARGUMENT, net, letter, 7, 0, 0, 1, 10);
            refusesStation(ARGUMENT, net, letter, -1, 0, 0, 1, 0);
            refusesStation(ARGUMENT, net, letter, 10, 0, 0, 1, 0);
        }
        refusesStation(ARGUMENT, net, '@', 7, 0, 0, 1, 0);
        refusesStation(ARGUMENT, net, '[', 7, 0, 0, 1, 0);
        refusesStation(ARGUMENT, net, 'k', 7, 0, 0, 1, 0);
        refusesStation(ARGUMENT, net, (char) 0, 10, 100, 100, 100, 10);
    }

    private static void addStationToAFreePlace() {
        Net net = Nets.line(7);
        refusesStation(UNSUPPORTED, net, 'A', 6, 0, 0, 1, 0);
        refusesStation(ARGUMENT, net, 'A', 6, 0, 0, 0, 0);
        refusesStation(ARGUMENT, net, 'X', 1, 0, 0, 0, 0);
        Check.same("a right one", 7, net.addStation('X', 1, 0, 0, 1, 0));
    }

    private static void move() {
        Net net = Nets.busy();
        for (int outside : NO_STATIONS) {
            Check.refuses("station", INDEX, net, () -> net.move(outside, 0, 0));
            Check.refuses("station and x", INDEX, net, () -> net.move(outside, -1, 0));
            Check.refuses("station and y", INDEX, net, () -> net.move(outside, 0, 100));
        }
        for (int station : new int[] {0, 1, 5, 7}) {
            Check.refuses("x", ARGUMENT, net, () -> net.move(station, -1, 0));
            Check.refuses("x", ARGUMENT, net, () -> net.move(station, 100, 0));
            Check.refuses("y", ARGUMENT, net, () -> net.move(station, 0, -1));
            Check.refuses("y", ARGUMENT, net, () -> net.move(station, 0, 100));
            Check.refuses("both", ARGUMENT, net, () -> net.move(station, 100, -1));
        }
    }

    private static void setPower() {
        Net net = Nets.busy();
        for (int outside : NO_STATIONS) {
            Check.refuses("station", INDEX, net, () -> net.setPower(outside, 1));
            Check.refuses("station and power", INDEX, net, () -> net.setPower(outside, 0));
            Check.refuses("station and power", INDEX, net, () -> net.setPower(outside, 100));
        }
        for (int station : new int[] {0, 1, 5, 7}) {
            Check.refuses("power", ARGUMENT, net, () -> net.setPower(station, 0));
            Check.refuses("power", ARGUMENT, net, () -> net.setPower(station, 100));
        }
    }

    private static void tune() {
        Net net = Nets.busy();
        for (int outside : NO_STATIONS) {
            Check.refuses("station", INDEX, net, () -> net.tune(outside, 0));
            Check.refuses("station and channel", INDEX, net, () -> net.tune(outside, -1));
            Check.refuses("station and channel", INDEX, net, () -> net.tune(outside, 10));
        }
        for (int outside : NO_CHANNELS) {
            Check.refuses("channel", ARGUMENT, net, () -> net.tune(5, outside));
            Check.refuses("channel, speaking", ARGUMENT, net, () -> net.tune(0, outside));
            Check.refuses("channel, waiting", ARGUMENT, net, () -> net.tune(1, outside));
        }
        Check.refuses("speaking", STATE, net, () -> net.tune(0, 9));
        Check.refuses("waiting", STATE, net, () -> net.tune(1, 0));
    }

    private static void turns() {
        Net net = Nets.busy();
        for (int outside : NO_STATIONS) {
            Check.refuses("request", INDEX, net, () -> net.request(outside));
            Check.refuses("release", INDEX, net, () -> net.release(outside));
            Check.refuses("cancel", INDEX, net, () -> net.cancel(outside));
        }
        Check.refuses("speaking", STATE, net, () -> net.request(0));
        Check.refuses("waiting", STATE, net, () -> net.request(2));
        Check.refuses("idle", STATE, net, () -> net.release(5));
        Check.refuses("waiting", STATE, net, () -> net.release(4));
        Check.refuses("idle", STATE, net, () -> net.cancel(7));
        Check.refuses("speaking", STATE, net, () -> net.cancel(3));
    }

    private static void minutes() {
        Net net = Nets.busy();
        for (int outside : new int[] {0, 61, -1, Integer.MIN_VALUE, Integer.MAX_VALUE}) {
            Check.refuses("setTurnLimit", ARGUMENT, net, () -> net.setTurnLimit(outside));
            Check.refuses("pass", ARGUMENT, net, () -> net.pass(outside));
        }
    }

    private static void properties() {
        Net net = Nets.busy();
        for (int outside : NO_STATIONS) {
            Check.refuses("letter", INDEX, net, () -> net.letter(outside));
            Check.refuses("digit", INDEX, net, () -> net.digit(outside));
            Check.refuses("channel", INDEX, net, () -> net.channel(outside));
            Check.refuses("power", INDEX, net, () -> net.power(outside));
            Check.refuses("isSpeaking", INDEX, net, () -> net.isSpeaking(outside));
            Check.refuses("isWaiting", INDEX, net, () -> net.isWaiting(outside));
            Check.refuses("minutesSpoken", INDEX, net, () -> net.minutesSpoken(outside));
            Check.refuses("minutesReceived", INDEX, net, () -> net.minutesReceived(outside));
            Check.refuses("stationByMinutes", ELEMENT, net, () -> net.stationByMinutes(outside));
            Check.refuses("find", ELEMENT, net, () -> net.find('K', outside));
        }
        Check.refuses("find", ELEMENT, net, () -> net.find('A', 7));
        Check.refuses("find", ELEMENT, net, () -> net.find('k', 7));
    }

    private static void channels() {
        Net net = Nets.busy();
        for (int outside : NO_CHANNELS) {
            Check.refuses("speaker", INDEX, net, () -> net.speaker(outside));
            Check.refuses("lineLength", INDEX, net, () -> net.lineLength(outside));
            Check.refuses("waiting", INDEX, net, () -> net.waiting(outside, 1));
            Check.refuses("waiting and position", INDEX, net, () -> net.waiting(outside, 0));
            Check.refuses("waiting and position", INDEX, net, () -> net.waiting(outside, 3));
        }
        Check.refuses("nobody speaks", ELEMENT, net, () -> net.speaker(0));
        Check.refuses("position", ELEMENT, net, () -> net.waiting(3, 0));
        Check.refuses("position", ELEMENT, net, () -> net.waiting(3, 3));
        Check.refuses("position", ELEMENT, net, () -> net.waiting(0, 1));
    }

    private static void minutesUntilTurn() {
        Net net = Nets.busy();
        for (int outside : NO_STATIONS) {
            Check.refuses("station", INDEX, net, () -> net.minutesUntilTurn(outside));
            Check.refuses("station", INDEX, net, () -> net.minutesUntilTurnBySimulation(outside));
        }
        for (int station : new int[] {0, 3, 5, 6, 7}) {
            Check.refuses("not waiting", STATE, net, () -> net.minutesUntilTurn(station));
            Check.refuses("not waiting", STATE, net, () -> net.minutesUntilTurnBySimulation(station));
        }
    }

    private static void hearing() {
        Net net = Nets.busy();
        for (int outside : NO_STATIONS) {
            Check.refuses("canHear", INDEX, net, () -> net.canHear(outside, 0));
            Check.refuses("canHear", INDEX, net, () -> net.canHear(0, outside));
            Check.refuses("canHear", INDEX, net, () -> net.canHear(outside, outside));
            Check.refuses("isJammed", INDEX, net, () -> net.isJammed(outside));
            Check.refuses("hops", INDEX, net, () -> net.hops(outside, 0));
            Check.refuses("hops", INDEX, net, () -> net.hops(0, outside));
            Check.refuses("hops", INDEX, net, () -> net.hops(outside, outside));
            Check.refuses("hopsBySets", INDEX, net, () -> net.hopsBySets(outside, 0));
            Check.refuses("hopsBySets", INDEX, net, () -> net.hopsBySets(0, outside));
            Check.refuses("hopsBySets", INDEX, net, () -> net.hopsBySets(outside, outside));
            Check.refuses("reachable", INDEX, net, () -> net.reachable(outside));
        }
        Check.refuses("hops", ELEMENT, net, () -> net.hops(0, 5));
        Check.refuses("hopsBySets", ELEMENT, net, () -> net.hopsBySets(0, 5));
    }

    private static void log() {
        Net net = Nets.busy();
        for (int outside : new int[] {-1, 16, Integer.MIN_VALUE, Integer.MAX_VALUE}) {
            Check.refuses("logStation", INDEX, net, () -> net.logStation(outside));
            Check.refuses("logBegin", INDEX, net, () -> net.logBegin(outside));
            Check.refuses("logMinutes", INDEX, net, () -> net.logMinutes(outside));
        }
    }

    private static void statistics() {
        Net net = new Net();
        Check.refuses("meanPower", ArithmeticException.class, net, net::meanPower);
        Check.refuses("airtime", ArithmeticException.class, net, net::airtime);
    }

    private static void output() {
        Net net = Nets.busy();
        for (int outside : NO_STATIONS) {
            Check.refuses("writeStation", INDEX, net, () -> net.writeStation(outside));
            Check.refuses("charAt", INDEX, net, () -> net.charAt(outside));
        }
        for (int outside : NO_CHANNELS) {
            Check.refuses("writeChannel", INDEX, net, () -> net.writeChannel(outside));
        }
    }

    private static void type() {
        Net net = Nets.busy();
        for (int length = 6; length < 60; length++) {
            net.type('0');
        }
        Check.refuses("type", STATE, net, () -> net.type('0'));
        Check.refuses("type", STATE, net, () -> net.type((char) 0xFFFF));
    }

    // These are typed behind the "wait 7" of the busy net, and the errors are at these positions.
    private static final String[] NOT_PROGRAMS = {"x", ";", "00", ";over 5;wait 0;x", ";move 0 100,0"};
    private static final int[] POSITIONS = {6, 7, 7, 21, 16};
    private static final String[] FAILING = {";over 5", ";limit 0", ";move 8 0,0", ";power 0=0",
        ";station X0 0,0 1 0", ";station K7 0,0 0 0", ";tune 0=1", ";call 2", ";cancel 0", ";wait 61"};

    /** "changes nothing, except that run() empties the program buffer and records" what was wrong */
    private static void run() {
        for (int i = 0; i < NOT_PROGRAMS.length; i++) {
            Net net = Nets.busy();
            Net twin = net.twin();
            Check.refusesText(net, NOT_PROGRAMS[i], POSITIONS[i]);
            restIsAlike(net, twin);
        }
        for (String text : FAILING) {
            Net net = Nets.busy();
            Net twin = net.twin();
            Check.failsAt(net, text, 1);
            restIsAlike(net, twin);
        }
    }

    /** What a refused run leaves alone: the output line, the history, the saved state. */
    private static void restIsAlike(Net net, Net twin) {
        Check.same("output", twin.output(), net.output());
        for (int i = 7; i >= 0; i--) {
            Check.same("undo", i, net.undo());
            twin.undo();
            Check.same("undone", twin.state(), net.state());
        }
        Check.refuses("undo", STATE, net, net::undo);
        Check.same("restore", 6, net.restore());
        twin.restore();
        Check.same("restored", twin.state(), net.state());
    }

    private static void records() {
        Net net = Nets.line(8);
        Check.refuses("errorPosition", ELEMENT, net, net::errorPosition);
        Check.refuses("failedCommand", ELEMENT, net, net::failedCommand);
    }

    private static void undoAndRestore() {
        Net net = Nets.busy();
        for (int i = 7; i >= 0; i--) {
            net.undo();
        }
        Check.refuses("undo", STATE, net, net::undo);
        Net unsaved = Nets.line(8);
        Check.refuses("restore", STATE, unsaved, unsaved::restore);
    }

    private static void questionsChangeNothing() {
        Net net = Nets.busy();
        Check.tells("stations", 8, net, net::stations);
        Check.tells("find", 7, net, () -> net.find('G', 6));
        Check.tells("letter", 'G', net, () -> net.letter(7));
        Check.tells("digit", 6, net, () -> net.digit(7));
        Check.tells("channel", 6, net, () -> net.channel(7));
        Check.tells("power", 40, net, () -> net.power(7));
        Check.tells("isSpeaking", true, net, () -> net.isSpeaking(0));
        Check.tells("isWaiting", true, net, () -> net.isWaiting(4));
        Check.tells("minutesSpoken", 11, net, () -> net.minutesSpoken(0));
        Check.tells("speaker", 0, net, () -> net.speaker(3));
        Check.tells("lineLength", 2, net, () -> net.lineLength(3));
        Check.tells("waiting", 2, net, () -> net.waiting(3, 1));
        Check.tells("waiting", 1, net, () -> net.waiting(3, 2));
        Check.tells("minutesUntilTurn", 35, net, () -> net.minutesUntilTurn(1));
        Check.tells("by simulation", 35, net, () -> net.minutesUntilTurnBySimulation(1));
        Check.tells("canHear", true, net, () -> net.canHear(1, 0));
        Check.tells("isJammed", true, net, () -> net.isJammed(0));
        Check.tells("jams", 4, net, net::jams);
        Check.tells("jamsByChannels", 4, net, net::jamsByChannels);
        Check.tells("hops", 1, net, () -> net.hops(0, 2));
        Check.tells("hopsBySets", 1, net, () -> net.hopsBySets(0, 2));
        Check.tells("reachable", 3, net, () -> net.reachable(0));
        Check.tells("logLength", 16, net, net::logLength);
        Check.tells("logStation", 1, net, () -> net.logStation(15));
        Check.tells("logBegin", 30, net, () -> net.logBegin(15));
        Check.tells("logMinutes", 1, net, () -> net.logMinutes(15));
        Check.tells("time", 36, net, net::time);
        Check.tells("turnLimit", 20, net, net::turnLimit);
        Check.tells("meanPower", 40.0, net, net::meanPower);
        Check.tells("airtime", 46.0f / 36.0f, net, net::airtime);
        Check.tells("isConsistent", true, net, net::isConsistent);
        Check.tells("charAt", 'K', net, () -> net.charAt(0));
        Check.tells("errorPosition", 2, net, net::errorPosition);
        Check.tells("failedCommand", 1, net, net::failedCommand);
    }
}
