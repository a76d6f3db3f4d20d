import java.util.ArrayDeque;
import java.util.ArrayList;
import java.util.Comparator;
import java.util.Deque;
import java.util.List;
import java.util.Map;
import java.util.NoSuchElementException;
import java.util.TreeMap;

/**
 * A second model of the document, for the tests alone. It is written as near to the document's words as
 * can be, and apart from RadioNet: with lists and copies made anew, square roots, and regular
 * expressions. ModelTest compares the two.
 */
final class Model {
    private static final int FAR = 100;

    /** "It has the coordinates x and y, ... a power ..., and a channel": and what is counted of it. */
    private static final class Station {
        char letter;
        int digit;
        int x;
        int y;
        int power;
        int channel;
        int spoken;
        int received;

        Station copy() {
            Station copy = new Station();
            copy.letter = letter;
            copy.digit = digit;
            copy.x = x;
            copy.y = y;
            copy.power = power;
            copy.channel = channel;
            copy.spoken = spoken;
            copy.received = received;
            return copy;
        }

        String sign() {
            return "" + letter + digit;
        }
    }

    private static final class Turn {
        final int station;
        final int begin;
        final int minutes;

        Turn(int station, int begin, int minutes) {
            this.station = station;
            this.begin = begin;
            this.minutes = minutes;
        }
    }

    /** "Everything except the program buffer, the error position, the failed command and the line." */
    private static final class State {
        final List<Station> stations = new ArrayList<>();
        // By channel: the speaking station, when its turn began and how long it has lasted, the line.
        final Map<Integer, Integer> speakers = new TreeMap<>();
        final Map<Integer, Integer> begins = new TreeMap<>();
        final Map<Integer, Integer> lasted = new TreeMap<>();
        final Map<Integer, List<Integer>> lines = new TreeMap<>();
        final List<Turn> log = new ArrayList<>();
        int time = 0;
        int turnLimit = 10;

        State() {
            for (int channel = 0; channel <= 9; channel++) {
                lines.put(channel, new ArrayList<>());
            }
        }

        State copy() {
            State copy = new State();
            for (Station station : stations) {
                copy.stations.add(station.copy());
            }
            copy.speakers.putAll(speakers);
            copy.begins.putAll(begins);
            copy.lasted.putAll(lasted);
            for (int channel : lines.keySet()) {
                copy.lines.get(channel).addAll(lines.get(channel));
            }
            copy.log.addAll(log);
            copy.time = time;
            copy.turnLimit = turnLimit;
            return copy;
        }
    }

    private State state = new State();
    private State saved = null;
    private final Deque<State> undoable = new ArrayDeque<>();
    private String line = "";
    private String buffer = "";
    private Integer errorPosition = null;
    private Integer failedCommand = null;

    // ---- stations

    int addStation(char letter, int digit, int x, int y, int power, int channel) {
        illegalArgumentUnless(letter >= 'A' && letter <= 'Z' && within(digit, 0, 9) && within(x, 0, 99)
                && within(y, 0, 99) && within(power, 1, 99) && within(channel, 0, 9));
        for (Station other : state.stations) {
            if (other.sign().equals("" + letter + digit)) {
                throw new UnsupportedOperationException();
            }
        }
        illegalStateUnless(state.stations.size() < 8);
        change();
        Station added = new Station();
        added.letter = letter;
        added.digit = digit;
        added.x = x;
        added.y = y;
        added.power = power;
        added.channel = channel;
        state.stations.add(added);
        return state.stations.size() - 1;
    }

    int move(int station, int x, int y) {
        Station moved = get(station);
        illegalArgumentUnless(within(x, 0, 99) && within(y, 0, 99));
        change();
        moved.x = x;
        moved.y = y;
        int listeners = 0;
        for (int i = 0; i < state.stations.size(); i++) {
            listeners += canHear(i, station) ? 1 : 0;
        }
        return listeners;
    }

    int setPower(int station, int power) {
        int previous = get(station).power;
        illegalArgumentUnless(within(power, 1, 99));
        change();
        get(station).power = power;
        return previous;
    }

    int tune(int station, int channel) {
        int previous = get(station).channel;
        illegalArgumentUnless(within(channel, 0, 9));
        illegalStateUnless(!isSpeaking(station) && !isWaiting(station));
        change();
        get(station).channel = channel;
        return previous;
    }

    // ---- turns

    int request(int station) {
        int channel = get(station).channel;
        illegalStateUnless(!isSpeaking(station) && !isWaiting(station));
        change();
        if (!state.speakers.containsKey(channel)) {
            beginTurn(station, channel);
            return 0;
        }
        state.lines.get(channel).add(station);
        return state.lines.get(channel).size();
    }

    int release(int station) {
        illegalStateUnless(isSpeaking(station));
        change();
        return endTurn(get(station).channel);
    }

    int cancel(int station) {
        illegalStateUnless(isWaiting(station));
        change();
        List<Integer> stations = state.lines.get(get(station).channel);
        stations.remove(Integer.valueOf(station));
        return stations.size();
    }

    int setTurnLimit(int minutes) {
        illegalArgumentUnless(within(minutes, 1, 60));
        change();
        int previous = state.turnLimit;
        state.turnLimit = minutes;
        return previous;
    }

    int pass(int minutes) {
        illegalArgumentUnless(within(minutes, 1, 60));
        change();
        int received = 0;
        for (int i = 0; i < minutes; i++) {
            received += passMinute();
        }
        return received;
    }

    // ---- properties of stations

    int stations() {
        return state.stations.size();
    }

    int find(char letter, int digit) {
        for (Station station : state.stations) {
            if (station.letter == letter && station.digit == digit) {
                return state.stations.indexOf(station);
            }
        }
        throw new NoSuchElementException();
    }

    char letter(int station) {
        return get(station).letter;
    }

    int digit(int station) {
        return get(station).digit;
    }

    int channel(int station) {
        return get(station).channel;
    }

    int power(int station) {
        return get(station).power;
    }

    boolean isSpeaking(int station) {
        Integer speaking = state.speakers.get(get(station).channel);
        return speaking != null && speaking == station;
    }

    boolean isWaiting(int station) {
        return state.lines.get(get(station).channel).contains(station);
    }

    int minutesSpoken(int station) {
        return get(station).spoken;
    }

    int minutesReceived(int station) {
        return get(station).received;
    }

    int stationByMinutes(int rank) {
        List<Station> sorted = new ArrayList<>(state.stations);
        sorted.sort(Comparator.comparing((Station s) -> -s.spoken).thenComparing(s -> -s.received)
                .thenComparing(Station::sign));
        elementUnless(within(rank, 0, sorted.size() - 1));
        return state.stations.indexOf(sorted.get(rank));
    }

    // ---- channels and lines

    int speaker(int channel) {
        indexUnless(within(channel, 0, 9));
        elementUnless(state.speakers.containsKey(channel));
        return state.speakers.get(channel);
    }

    int lineLength(int channel) {
        indexUnless(within(channel, 0, 9));
        return state.lines.get(channel).size();
    }

    int waiting(int channel, int position) {
        indexUnless(within(channel, 0, 9));
        elementUnless(within(position, 1, state.lines.get(channel).size()));
        return state.lines.get(channel).get(position - 1);
    }

    int minutesUntilTurn(int station) {
        illegalStateUnless(isWaiting(station));
        State before = state;
        state = before.copy();
        int minutes = 0;
        while (!isSpeaking(station)) {
            passMinute();
            minutes++;
        }
        state = before;
        return minutes;
    }

    int minutesUntilTurnBySimulation(int station) {
        return minutesUntilTurn(station);
    }

    // ---- hearing, jamming, hops

    boolean canHear(int listener, int other) {
        Station ear = get(listener);
        Station mouth = get(other);
        return listener != other && ear.channel == mouth.channel && distance(ear, mouth) <= mouth.power;
    }

    boolean isJammed(int station) {
        get(station);
        for (int speaking : state.speakers.values()) {
            if (isJammedBy(station, speaking)) {
                return true;
            }
        }
        return false;
    }

    int jams() {
        int pairs = 0;
        for (int speaking : state.speakers.values()) {
            for (int i = 0; i < state.stations.size(); i++) {
                pairs += isJammedBy(i, speaking) ? 1 : 0;
            }
        }
        return pairs;
    }

    int jamsByChannels() {
        return jams();
    }

    int hops(int from, int to) {
        get(from);
        get(to);
        int hops = ways()[from][to];
        elementUnless(hops < FAR);
        return hops;
    }

    int hopsBySets(int from, int to) {
        return hops(from, to);
    }

    int reachable(int station) {
        get(station);
        int reached = 0;
        for (int hops : ways()[station]) {
            reached += hops < FAR ? 1 : 0;
        }
        return reached;
    }

    // ---- the log and statistics

    int logLength() {
        return state.log.size();
    }

    int logStation(int entry) {
        return entry(entry).station;
    }

    int logBegin(int entry) {
        return entry(entry).begin;
    }

    int logMinutes(int entry) {
        return entry(entry).minutes;
    }

    int time() {
        return state.time;
    }

    int turnLimit() {
        return state.turnLimit;
    }

    double meanPower() {
        arithmeticUnless(!state.stations.isEmpty());
        int sum = 0;
        for (Station station : state.stations) {
            sum += station.power;
        }
        return (double) sum / (double) state.stations.size();
    }

    float airtime() {
        arithmeticUnless(state.time != 0);
        int spoken = 0;
        for (Station station : state.stations) {
            spoken += station.spoken;
        }
        return (float) spoken / (float) state.time;
    }

    boolean isConsistent() {
        return true;
    }

    // ---- output

    int writeStation(int station) {
        Station written = get(station);
        line = written.sign() + "@" + written.x + "," + written.y + "#" + written.channel
                + (isSpeaking(station) ? "!" : isWaiting(station) ? "?" : "");
        return line.length();
    }

    int writeChannel(int channel) {
        indexUnless(within(channel, 0, 9));
        line = "";
        if (state.speakers.containsKey(channel)) {
            line = get(state.speakers.get(channel)).sign();
            for (int station : state.lines.get(channel)) {
                line += "<" + get(station).sign();
            }
        }
        return line.length();
    }

    char charAt(int index) {
        indexUnless(within(index, 0, line.length() - 1));
        return line.charAt(index);
    }

    // ---- programs

    int type(char character) {
        illegalStateUnless(buffer.length() < 60);
        buffer += character;
        return buffer.length();
    }

    int run() {
        String text = buffer;
        buffer = "";
        int error = GrammarTest.errorPosition(text);
        if (error >= 0) {
            errorPosition = error;
            throw new IllegalArgumentException();
        }
        Model trial = new Model();
        trial.state = state.copy();
        String[] commands = text.split(";");
        for (int i = 0; i < commands.length; i++) {
            try {
                trial.execute(commands[i].split("[ ,=]"));
            } catch (RuntimeException e) {
                failedCommand = i;
                throw new UnsupportedOperationException();
            }
        }
        change();
        state = trial.state;
        return commands.length;
    }

    private void execute(String[] words) {
        int[] values = new int[words.length];
        for (int i = 1; i < words.length; i++) {
            values[i] = words[i].matches("[0-9]+") ? Integer.parseInt(words[i]) : 0;
        }
        switch (words[0]) {
            case "station" -> addStation(words[1].charAt(0), words[1].charAt(1) - '0',
                    values[2], values[3], values[4], values[5]);
            case "move" -> move(values[1], values[2], values[3]);
            case "power" -> setPower(values[1], values[2]);
            case "tune" -> tune(values[1], values[2]);
            case "call" -> request(values[1]);
            case "over" -> release(values[1]);
            case "cancel" -> cancel(values[1]);
            case "limit" -> setTurnLimit(values[1]);
            default -> pass(words.length == 1 ? 1 : values[1]);
        }
    }

    int errorPosition() {
        elementUnless(errorPosition != null);
        return errorPosition;
    }

    int failedCommand() {
        elementUnless(failedCommand != null);
        return failedCommand;
    }

    // ---- undo and snapshots

    int undo() {
        illegalStateUnless(!undoable.isEmpty());
        state = undoable.removeLast();
        return undoable.size();
    }

    int save() {
        saved = state.copy();
        return state.stations.size();
    }

    int restore() {
        illegalStateUnless(saved != null);
        state = saved.copy();
        undoable.clear();
        return state.stations.size();
    }

    // ---- what the calls share

    private void change() {
        undoable.addLast(state.copy());
        if (undoable.size() > 8) {
            undoable.removeFirst();
        }
    }

    private int passMinute() {
        for (int channel : state.speakers.keySet()) {
            state.stations.get(state.speakers.get(channel)).spoken++;
            state.lasted.merge(channel, 1, Integer::sum);
        }
        int received = 0;
        for (int i = 0; i < state.stations.size(); i++) {
            Integer speaking = state.speakers.get(channel(i));
            if (speaking != null && canHear(i, speaking) && !isJammed(i)) {
                state.stations.get(i).received++;
                received++;
            }
        }
        state.time++;
        List<Integer> due = new ArrayList<>();
        for (int channel : state.speakers.keySet()) {
            if (state.lasted.get(channel) >= state.turnLimit) {
                due.add(state.speakers.get(channel));
            }
        }
        due.sort(Comparator.naturalOrder());
        for (int station : due) {
            endTurn(channel(station));
        }
        return received;
    }

    private int endTurn(int channel) {
        int minutes = state.lasted.remove(channel);
        state.log.add(new Turn(state.speakers.remove(channel), state.begins.remove(channel), minutes));
        if (state.log.size() > 16) {
            state.log.remove(0);
        }
        if (!state.lines.get(channel).isEmpty()) {
            beginTurn(state.lines.get(channel).remove(0), channel);
        }
        return minutes;
    }

    private void beginTurn(int station, int channel) {
        state.speakers.put(channel, station);
        state.begins.put(channel, state.time);
        state.lasted.put(channel, 0);
    }

    private boolean isJammedBy(int station, int speaking) {
        Station jammed = get(station);
        Station jamming = get(speaking);
        return Math.abs(jammed.channel - jamming.channel) == 1
                && 2 * distance(jammed, jamming) <= jamming.power;
    }

    private static double distance(Station one, Station other) {
        return Math.sqrt((one.x - other.x) * (one.x - other.x) + (one.y - other.y) * (one.y - other.y));
    }

    /** The hops of all pairs; FAR or more if a message cannot get there. */
    private int[][] ways() {
        int count = state.stations.size();
        int[][] ways = new int[count][count];
        for (int from = 0; from < count; from++) {
            for (int to = 0; to < count; to++) {
                ways[from][to] = from == to ? 0 : canHear(to, from) ? 1 : FAR;
            }
        }
        for (int by = 0; by < count; by++) {
            for (int from = 0; from < count; from++) {
                for (int to = 0; to < count; to++) {
                    ways[from][to] = Math.min(ways[from][to], ways[from][by] + ways[by][to]);
                }
            }
        }
        return ways;
    }

    private Station get(int station) {
        indexUnless(within(station, 0, state.stations.size() - 1));
        return state.stations.get(station);
    }

    private Turn entry(int entry) {
        indexUnless(within(entry, 0, state.log.size() - 1));
        return state.log.get(entry);
    }

    private static boolean within(int value, int smallest, int largest) {
        return value >= smallest && value <= largest;
    }

    private static void indexUnless(boolean holds) {
        if (!holds) {
            throw new IndexOutOfBoundsException();
        }
    }

    private static void illegalArgumentUnless(boolean holds) {
        if (!holds) {
            throw new IllegalArgumentException();
        }
    }

    private static void illegalStateUnless(boolean holds) {
        if (!holds) {
            throw new IllegalStateException();
        }
    }

    private static void elementUnless(boolean holds) {
        if (!holds) {
            throw new NoSuchElementException();
        }
    }

    private static void arithmeticUnless(boolean holds) {
        if (!holds) {
            throw new ArithmeticException();
        }
    }
}
