import java.util.NoSuchElementException;

/**
 * A simulator of a radio net: stations that speak, wait, listen and jam, a log of turns, relayed
 * messages, programs, and undo. The document's promises are its specification.
 */
public final class RadioNet {
    private static final int STATION_LIMIT = 8;
    private static final int CHANNELS = 10;
    private static final int LARGEST_COORDINATE = 99;
    private static final int LARGEST_POWER = 99;
    private static final int LARGEST_MINUTES = 60;
    private static final int FIRST_TURN_LIMIT = 10;
    private static final int LOG_LIMIT = 16;
    private static final int UNDO_LIMIT = 8;
    private static final int BUFFER_LIMIT = 60;
    // The shortest command with its ";" has 5 characters; one more may be begun behind the last ";".
    private static final int COMMAND_LIMIT = BUFFER_LIMIT / 5 + 1;
    private static final int COMMAND_VALUES = 6;
    private static final int NONE = -1;

    private static final Kind[] KINDS = Kind.values();

    private final Net net;
    private final Net trial;
    private final Net saved;
    private boolean hasSaved;
    private final History history;
    private final Relays relays;
    private final Program program;
    private final StringBuilder output;
    private int latestErrorPosition;
    private int latestFailedCommand;

    public RadioNet() {
        net = new Net();
        trial = new Net();
        saved = new Net();
        hasSaved = false;
        history = new History();
        relays = new Relays();
        program = new Program();
        output = new StringBuilder();
        latestErrorPosition = NONE;
        latestFailedCommand = NONE;
    }

    // ---- stations

    public int addStation(char letter, int digit, int x, int y, int power, int channel)
            throws IllegalArgumentException, UnsupportedOperationException, IllegalStateException {
        refuse(net.faultOfAdding(letter, digit, x, y, power, channel));
        history.push(net);
        return net.add(letter, digit, x, y, power, channel);
    }

    public int move(int station, int x, int y)
            throws IndexOutOfBoundsException, IllegalArgumentException {
        refuse(net.faultOfMoving(station, x, y));
        history.push(net);
        return net.moveTo(station, x, y);
    }

    public int setPower(int station, int power)
            throws IndexOutOfBoundsException, IllegalArgumentException {
        refuse(net.faultOfPower(station, power));
        history.push(net);
        return net.changePower(station, power);
    }

    public int tune(int station, int channel)
            throws IndexOutOfBoundsException, IllegalArgumentException, IllegalStateException {
        refuse(net.faultOfTuning(station, channel));
        history.push(net);
        return net.changeChannel(station, channel);
    }

    // ---- turns

    public int request(int station) throws IndexOutOfBoundsException, IllegalStateException {
        refuse(net.faultOfMode(station, Mode.IDLE));
        history.push(net);
        return net.speakOrWait(station);
    }

    public int release(int station) throws IndexOutOfBoundsException, IllegalStateException {
        refuse(net.faultOfMode(station, Mode.SPEAKING));
        history.push(net);
        return net.endTurn(station);
    }

    public int cancel(int station) throws IndexOutOfBoundsException, IllegalStateException {
        refuse(net.faultOfMode(station, Mode.WAITING));
        history.push(net);
        return net.stopWaiting(station);
    }

    public int setTurnLimit(int minutes) throws IllegalArgumentException {
        refuse(faultOfMinutes(minutes));
        history.push(net);
        return net.changeTurnLimit(minutes);
    }

    public int pass(int minutes) throws IllegalArgumentException {
        refuse(faultOfMinutes(minutes));
        history.push(net);
        return net.passMinutes(minutes);
    }

    // ---- properties of stations

    public int stations() {
        return net.count;
    }

    public int find(char letter, int digit) throws NoSuchElementException {
        int station = net.stationOfSign(letter, digit);
        if (station < 0) {
            throw new NoSuchElementException("no station has this call sign");
        }
        return station;
    }

    public char letter(int station) throws IndexOutOfBoundsException {
        return known(station).letter;
    }

    public int digit(int station) throws IndexOutOfBoundsException {
        return known(station).digit;
    }

    public int channel(int station) throws IndexOutOfBoundsException {
        return known(station).channel;
    }

    public int power(int station) throws IndexOutOfBoundsException {
        return known(station).power;
    }

    public boolean isSpeaking(int station) throws IndexOutOfBoundsException {
        return known(station).mode == Mode.SPEAKING;
    }

    public boolean isWaiting(int station) throws IndexOutOfBoundsException {
        return known(station).mode == Mode.WAITING;
    }

    public int minutesSpoken(int station) throws IndexOutOfBoundsException {
        return known(station).spoken;
    }

    public int minutesReceived(int station) throws IndexOutOfBoundsException {
        return known(station).received;
    }

    public int stationByMinutes(int rank) throws NoSuchElementException {
        int station = net.stationOfRank(rank);
        if (station < 0) {
            throw new NoSuchElementException("no such rank");
        }
        return station;
    }

    // ---- channels and lines

    public int speaker(int channel) throws IndexOutOfBoundsException, NoSuchElementException {
        requireChannel(channel);
        int station = net.speakerOn(channel);
        if (station < 0) {
            throw new NoSuchElementException("no station is speaking");
        }
        return station;
    }

    public int lineLength(int channel) throws IndexOutOfBoundsException {
        requireChannel(channel);
        return net.waitingOn(channel);
    }

    public int waiting(int channel, int position)
            throws IndexOutOfBoundsException, NoSuchElementException {
        requireChannel(channel);
        int station = net.stationInLine(channel, position);
        if (station < 0) {
            throw new NoSuchElementException("no such position");
        }
        return station;
    }

    public int minutesUntilTurn(int station) throws IndexOutOfBoundsException, IllegalStateException {
        refuse(net.faultOfMode(station, Mode.WAITING));
        return net.computedMinutes(station);
    }

    public int minutesUntilTurnBySimulation(int station)
            throws IndexOutOfBoundsException, IllegalStateException {
        refuse(net.faultOfMode(station, Mode.WAITING));
        return simulatedMinutes(station);
    }

    // ---- hearing, jamming, hops

    public boolean canHear(int listener, int other) throws IndexOutOfBoundsException {
        return known(listener).hears(known(other));
    }

    public boolean isJammed(int station) throws IndexOutOfBoundsException {
        return net.anyJams(known(station));
    }

    public int jams() {
        return net.jamsOfStations();
    }

    public int jamsByChannels() {
        return net.jamsOfChannels();
    }

    public int hops(int from, int to) throws IndexOutOfBoundsException, NoSuchElementException {
        requireStation(from);
        requireStation(to);
        return requireHops(relays.hopsByBreadth(net, from, to));
    }

    public int hopsBySets(int from, int to) throws IndexOutOfBoundsException, NoSuchElementException {
        requireStation(from);
        requireStation(to);
        return requireHops(relays.hopsOfSets(net, from, to));
    }

    public int reachable(int station) throws IndexOutOfBoundsException {
        requireStation(station);
        return relays.countReached(net, station);
    }

    // ---- the log and statistics

    public int logLength() {
        return net.log.count;
    }

    public int logStation(int entry) throws IndexOutOfBoundsException {
        requireEntry(entry);
        return net.log.stations[entry];
    }

    public int logBegin(int entry) throws IndexOutOfBoundsException {
        requireEntry(entry);
        return net.log.begins[entry];
    }

    public int logMinutes(int entry) throws IndexOutOfBoundsException {
        requireEntry(entry);
        return net.log.minutes[entry];
    }

    public int time() {
        return net.time;
    }

    public int turnLimit() {
        return net.turnLimit;
    }

    public double meanPower() throws ArithmeticException {
        if (net.count == 0) {
            throw new ArithmeticException("there are no stations");
        }
        return (double) net.sumOfPowers() / (double) net.count;
    }

    public float airtime() throws ArithmeticException {
        if (net.time == 0) {
            throw new ArithmeticException("the time is 0");
        }
        return (float) net.sumOfSpoken() / (float) net.time;
    }

    public boolean isConsistent() {
        return hopsAgree()
                && net.jamsOfStations() == net.jamsOfChannels()
                && turnsAgree()
                && net.channelsAreOrdered();
    }

    // ---- output

    public int writeStation(int station) throws IndexOutOfBoundsException {
        Station written = known(station);
        output.setLength(0);
        appendSign(written);
        output.append('@').append(written.x).append(',').append(written.y);
        output.append('#').append(written.channel);
        if (written.mode == Mode.SPEAKING) {
            output.append('!');
        } else if (written.mode == Mode.WAITING) {
            output.append('?');
        }
        return output.length();
    }

    public int writeChannel(int channel) throws IndexOutOfBoundsException {
        requireChannel(channel);
        output.setLength(0);
        int speaking = net.speakerOn(channel);
        if (speaking >= 0) {
            appendSign(net.stations[speaking]);
            appendLine(channel);
        }
        return output.length();
    }

    public char charAt(int index) throws IndexOutOfBoundsException {
        if (index < 0 || index >= output.length()) {
            throw new IndexOutOfBoundsException("no such character");
        }
        return output.charAt(index);
    }

    // ---- programs

    public int type(char character) throws IllegalStateException {
        if (program.length >= BUFFER_LIMIT) {
            throw new IllegalStateException("the buffer is full");
        }
        program.append(character);
        return program.length;
    }

    public int run() throws IllegalArgumentException, UnsupportedOperationException {
        int error = program.parse();
        program.empty();
        if (error >= 0) {
            latestErrorPosition = error;
            throw new IllegalArgumentException("the text is not a program");
        }
        trial.copyFrom(net);
        for (int i = 0; i < program.commandCount; i++) {
            if (!program.commands[i].succeedsOn(trial)) {
                latestFailedCommand = i;
                throw new UnsupportedOperationException("a command failed");
            }
        }
        history.push(net);
        net.copyFrom(trial);
        return program.commandCount;
    }

    public int errorPosition() throws NoSuchElementException {
        if (latestErrorPosition < 0) {
            throw new NoSuchElementException("every text was a program");
        }
        return latestErrorPosition;
    }

    public int failedCommand() throws NoSuchElementException {
        if (latestFailedCommand < 0) {
            throw new NoSuchElementException("no command failed");
        }
        return latestFailedCommand;
    }

    // ---- undo and snapshots

    public int undo() throws IllegalStateException {
        if (history.count == 0) {
            throw new IllegalStateException("no change can be undone");
        }
        history.popInto(net);
        return history.count;
    }

    public int save() {
        saved.copyFrom(net);
        hasSaved = true;
        return net.count;
    }

    public int restore() throws IllegalStateException {
        if (!hasSaved) {
            throw new IllegalStateException("no state was saved");
        }
        net.copyFrom(saved);
        history.clear();
        return net.count;
    }

    // ---- what the calls above share

    private static void refuse(Fault fault) {
        switch (fault) {
            case NO_STATION:
                throw new IndexOutOfBoundsException("the station does not exist");
            case OUT_OF_RANGE:
                throw new IllegalArgumentException("an argument is out of range");
            case SIGN_TAKEN:
                throw new UnsupportedOperationException("another station has this call sign");
            case WRONG_STATE:
                throw new IllegalStateException("the state does not allow this");
            default:
                break;
        }
    }

    private void requireStation(int station) {
        if (!net.has(station)) {
            throw new IndexOutOfBoundsException("the station does not exist");
        }
    }

    private Station known(int station) {
        requireStation(station);
        return net.stations[station];
    }

    private static void requireChannel(int channel) {
        if (!isChannel(channel)) {
            throw new IndexOutOfBoundsException("there is no such channel");
        }
    }

    private void requireEntry(int entry) {
        if (entry < 0 || entry >= net.log.count) {
            throw new IndexOutOfBoundsException("there is no such entry");
        }
    }

    private static int requireHops(int hops) {
        if (hops < 0) {
            throw new NoSuchElementException("a message cannot get there");
        }
        return hops;
    }

    private static boolean isChannel(int channel) {
        return channel >= 0 && channel < CHANNELS;
    }

    private static boolean isPower(int power) {
        return power >= 1 && power <= LARGEST_POWER;
    }

    private static boolean isPlace(int x, int y) {
        return x >= 0 && x <= LARGEST_COORDINATE && y >= 0 && y <= LARGEST_COORDINATE;
    }

    private static boolean isLetter(char letter) {
        return letter >= 'A' && letter <= 'Z';
    }

    private static Fault faultOfMinutes(int minutes) {
        return minutes >= 1 && minutes <= LARGEST_MINUTES ? Fault.NO_FAULT : Fault.OUT_OF_RANGE;
    }

    /** The minutes until a waiting station speaks, by letting them pass on a copy of the net. */
    private int simulatedMinutes(int station) {
        trial.copyFrom(net);
        for (int minutes = 1; minutes <= STATION_LIMIT * LARGEST_MINUTES; minutes++) {
            trial.passMinute();
            if (trial.stations[station].mode == Mode.SPEAKING) {
                return minutes;
            }
        }
        return NONE;
    }

    private boolean hopsAgree() {
        for (int from = 0; from < net.count; from++) {
            for (int to = 0; to < net.count; to++) {
                if (relays.hopsByBreadth(net, from, to) != relays.hopsOfSets(net, from, to)) {
                    return false;
                }
            }
        }
        return true;
    }

    private boolean turnsAgree() {
        for (int station = 0; station < net.count; station++) {
            if (net.stations[station].mode == Mode.WAITING
                    && net.computedMinutes(station) != simulatedMinutes(station)) {
                return false;
            }
        }
        return true;
    }

    private void appendSign(Station station) {
        output.append(station.letter).append(station.digit);
    }

    private void appendLine(int channel) {
        for (int i = 0; i < net.waitingCount; i++) {
            Station next = net.stations[net.waiting[i]];
            if (next.channel == channel) {
                output.append('<');
                appendSign(next);
            }
        }
    }

    private enum Mode { IDLE, SPEAKING, WAITING }

    /** Why a change is refused. */
    private enum Fault { NO_FAULT, NO_STATION, OUT_OF_RANGE, SIGN_TAKEN, WRONG_STATE }

    private static final class Station {
        char letter;
        int digit;
        int x;
        int y;
        int power;
        int channel;
        Mode mode;
        int turnBegin;
        int spoken;
        int received;

        Station() {
            mode = Mode.IDLE;
        }

        void copyFrom(Station other) {
            letter = other.letter;
            digit = other.digit;
            x = other.x;
            y = other.y;
            power = other.power;
            channel = other.channel;
            mode = other.mode;
            turnBegin = other.turnBegin;
            spoken = other.spoken;
            received = other.received;
        }

        int squaredDistance(Station other) {
            int across = x - other.x;
            int up = y - other.y;
            return across * across + up * up;
        }

        boolean hears(Station other) {
            return this != other
                    && channel == other.channel
                    && squaredDistance(other) <= other.power * other.power;
        }

        boolean disturbs(Station other) {
            return mode == Mode.SPEAKING
                    && Math.abs(channel - other.channel) == 1
                    && 4 * squaredDistance(other) <= power * power;
        }

        boolean ranksBefore(Station other) {
            if (spoken != other.spoken) {
                return spoken > other.spoken;
            }
            if (received != other.received) {
                return received > other.received;
            }
            if (letter != other.letter) {
                return letter < other.letter;
            }
            return digit < other.digit;
        }
    }

    /** The latest turns that ended, the oldest first. */
    private static final class TurnLog {
        final int[] stations;
        final int[] begins;
        final int[] minutes;
        int count;

        TurnLog() {
            stations = new int[LOG_LIMIT];
            begins = new int[LOG_LIMIT];
            minutes = new int[LOG_LIMIT];
            count = 0;
        }

        void copyFrom(TurnLog other) {
            count = other.count;
            for (int i = 0; i < LOG_LIMIT; i++) {
                stations[i] = other.stations[i];
                begins[i] = other.begins[i];
                minutes[i] = other.minutes[i];
            }
        }

        void add(int station, int begin, int lasted) {
            if (count >= LOG_LIMIT) {
                for (int i = 1; i < LOG_LIMIT; i++) {
                    stations[i - 1] = stations[i];
                    begins[i - 1] = begins[i];
                    minutes[i - 1] = minutes[i];
                }
                count = LOG_LIMIT - 1;
            }
            stations[count] = station;
            begins[count] = begin;
            minutes[count] = lasted;
            count++;
        }
    }

    /** The state that is undone, saved and restored, and the changes of it. */
    private static final class Net {
        final Station[] stations;
        int count;
        // The waiting stations of all channels in the order of their requests: a waiting station
        // cannot be tuned, so that the line of a channel is what this row holds of the channel.
        final int[] waiting;
        int waitingCount;
        final TurnLog log;
        int time;
        int turnLimit;

        Net() {
            stations = new Station[STATION_LIMIT];
            for (int i = 0; i < STATION_LIMIT; i++) {
                stations[i] = new Station();
            }
            count = 0;
            waiting = new int[STATION_LIMIT];
            waitingCount = 0;
            log = new TurnLog();
            time = 0;
            turnLimit = FIRST_TURN_LIMIT;
        }

        void copyFrom(Net other) {
            for (int i = 0; i < STATION_LIMIT; i++) {
                stations[i].copyFrom(other.stations[i]);
                waiting[i] = other.waiting[i];
            }
            count = other.count;
            waitingCount = other.waitingCount;
            log.copyFrom(other.log);
            time = other.time;
            turnLimit = other.turnLimit;
        }

        // ---- why a change is refused

        Fault faultOfAdding(char letter, int digit, int x, int y, int power, int channel) {
            if (!isLetter(letter) || digit < 0 || digit > 9
                    || !isPlace(x, y) || !isPower(power) || !isChannel(channel)) {
                return Fault.OUT_OF_RANGE;
            }
            if (stationOfSign(letter, digit) >= 0) {
                return Fault.SIGN_TAKEN;
            }
            return count >= STATION_LIMIT ? Fault.WRONG_STATE : Fault.NO_FAULT;
        }

        Fault faultOfMoving(int station, int x, int y) {
            if (!has(station)) {
                return Fault.NO_STATION;
            }
            return isPlace(x, y) ? Fault.NO_FAULT : Fault.OUT_OF_RANGE;
        }

        Fault faultOfPower(int station, int power) {
            if (!has(station)) {
                return Fault.NO_STATION;
            }
            return isPower(power) ? Fault.NO_FAULT : Fault.OUT_OF_RANGE;
        }

        Fault faultOfTuning(int station, int channel) {
            if (!has(station)) {
                return Fault.NO_STATION;
            }
            if (!isChannel(channel)) {
                return Fault.OUT_OF_RANGE;
            }
            return faultOfMode(station, Mode.IDLE);
        }

        Fault faultOfMode(int station, Mode needed) {
            if (!has(station)) {
                return Fault.NO_STATION;
            }
            return stations[station].mode == needed ? Fault.NO_FAULT : Fault.WRONG_STATE;
        }

        // ---- changes, which are made only if there is no fault

        int add(char letter, int digit, int x, int y, int power, int channel) {
            int station = count;
            Station added = stations[station];
            added.letter = letter;
            added.digit = digit;
            added.x = x;
            added.y = y;
            added.power = power;
            added.channel = channel;
            added.mode = Mode.IDLE;
            added.turnBegin = 0;
            added.spoken = 0;
            added.received = 0;
            count++;
            return station;
        }

        int moveTo(int station, int x, int y) {
            Station moved = stations[station];
            moved.x = x;
            moved.y = y;
            int listeners = 0;
            for (int i = 0; i < count; i++) {
                if (stations[i].hears(moved)) {
                    listeners++;
                }
            }
            return listeners;
        }

        int changePower(int station, int power) {
            int before = stations[station].power;
            stations[station].power = power;
            return before;
        }

        int changeChannel(int station, int channel) {
            int before = stations[station].channel;
            stations[station].channel = channel;
            return before;
        }

        int changeTurnLimit(int minutes) {
            int before = turnLimit;
            turnLimit = minutes;
            return before;
        }

        int speakOrWait(int station) {
            int channel = stations[station].channel;
            if (speakerOn(channel) < 0) {
                beginTurn(station);
                return 0;
            }
            stations[station].mode = Mode.WAITING;
            if (waitingCount < STATION_LIMIT) {
                waiting[waitingCount] = station;
                waitingCount++;
            }
            return waitingOn(channel);
        }

        void beginTurn(int station) {
            stations[station].mode = Mode.SPEAKING;
            stations[station].turnBegin = time;
        }

        int endTurn(int station) {
            Station ended = stations[station];
            int lasted = time - ended.turnBegin;
            log.add(station, ended.turnBegin, lasted);
            ended.mode = Mode.IDLE;
            int next = stationInLine(ended.channel, 1);
            if (next >= 0) {
                leaveLine(next);
                beginTurn(next);
            }
            return lasted;
        }

        int stopWaiting(int station) {
            leaveLine(station);
            stations[station].mode = Mode.IDLE;
            return waitingOn(stations[station].channel);
        }

        void leaveLine(int station) {
            int kept = 0;
            for (int i = 0; i < waitingCount; i++) {
                if (waiting[i] != station) {
                    waiting[kept] = waiting[i];
                    kept++;
                }
            }
            waitingCount = kept;
        }

        int passMinutes(int minutes) {
            int received = 0;
            for (int i = 0; i < minutes; i++) {
                received += passMinute();
            }
            return received;
        }

        int passMinute() {
            int received = 0;
            for (int i = 0; i < count; i++) {
                Station station = stations[i];
                if (station.mode == Mode.SPEAKING) {
                    station.spoken++;
                }
                if (hearsSpeaker(station) && !anyJams(station)) {
                    station.received++;
                    received++;
                }
            }
            time++;
            endLongTurns();
            return received;
        }

        void endLongTurns() {
            for (int i = 0; i < count; i++) {
                // A turn that begins in this loop has lasted 0 minutes, so it does not end here.
                if (stations[i].mode == Mode.SPEAKING && time - stations[i].turnBegin >= turnLimit) {
                    endTurn(i);
                }
            }
        }

        // ---- stations and lines

        boolean has(int station) {
            return station >= 0 && station < count;
        }

        int stationOfSign(char letter, int digit) {
            for (int i = 0; i < count; i++) {
                if (stations[i].letter == letter && stations[i].digit == digit) {
                    return i;
                }
            }
            return NONE;
        }

        int stationOfRank(int rank) {
            for (int i = 0; i < count; i++) {
                int before = 0;
                for (int j = 0; j < count; j++) {
                    if (stations[j].ranksBefore(stations[i])) {
                        before++;
                    }
                }
                if (before == rank) {
                    return i;
                }
            }
            return NONE;
        }

        int speakerOn(int channel) {
            for (int i = 0; i < count; i++) {
                if (stations[i].channel == channel && stations[i].mode == Mode.SPEAKING) {
                    return i;
                }
            }
            return NONE;
        }

        int waitingOn(int channel) {
            int length = 0;
            for (int i = 0; i < waitingCount; i++) {
                if (stations[waiting[i]].channel == channel) {
                    length++;
                }
            }
            return length;
        }

        int stationInLine(int channel, int position) {
            int passed = 0;
            for (int i = 0; i < waitingCount; i++) {
                if (stations[waiting[i]].channel == channel) {
                    passed++;
                    if (passed == position) {
                        return waiting[i];
                    }
                }
            }
            return NONE;
        }

        int computedMinutes(int station) {
            int channel = stations[station].channel;
            int speaking = speakerOn(channel);
            if (speaking < 0) {
                return NONE;
            }
            int lasted = time - stations[speaking].turnBegin;
            // A turn that the limit has overtaken still lasts until the end of the next minute.
            int minutes = Math.max(1, turnLimit - lasted);
            for (int i = 0; i < waitingCount && waiting[i] != station; i++) {
                if (stations[waiting[i]].channel == channel) {
                    minutes += turnLimit;
                }
            }
            return minutes;
        }

        // ---- hearing and jamming

        boolean hearsSpeaker(Station listener) {
            int speaking = speakerOn(listener.channel);
            return speaking >= 0 && listener.hears(stations[speaking]);
        }

        boolean anyJams(Station station) {
            for (int i = 0; i < count; i++) {
                if (stations[i].disturbs(station)) {
                    return true;
                }
            }
            return false;
        }

        int jamsOfStations() {
            int pairs = 0;
            for (int i = 0; i < count; i++) {
                for (int j = 0; j < count; j++) {
                    if (stations[i].disturbs(stations[j])) {
                        pairs++;
                    }
                }
            }
            return pairs;
        }

        int jamsOfChannels() {
            int pairs = 0;
            for (int channel = 0; channel + 1 < CHANNELS; channel++) {
                pairs += jamsBetween(channel, channel + 1);
                pairs += jamsBetween(channel + 1, channel);
            }
            return pairs;
        }

        int jamsBetween(int speakingChannel, int jammedChannel) {
            int speaking = speakerOn(speakingChannel);
            int pairs = 0;
            for (int i = 0; i < count && speaking >= 0; i++) {
                if (stations[i].channel == jammedChannel && stations[speaking].disturbs(stations[i])) {
                    pairs++;
                }
            }
            return pairs;
        }

        // ---- statistics and invariants

        int sumOfPowers() {
            int sum = 0;
            for (int i = 0; i < count; i++) {
                sum += stations[i].power;
            }
            return sum;
        }

        int sumOfSpoken() {
            int sum = 0;
            for (int i = 0; i < count; i++) {
                sum += stations[i].spoken;
            }
            return sum;
        }

        int countOn(int channel, Mode mode) {
            int stationsInMode = 0;
            for (int i = 0; i < count; i++) {
                if (stations[i].channel == channel && stations[i].mode == mode) {
                    stationsInMode++;
                }
            }
            return stationsInMode;
        }

        boolean channelsAreOrdered() {
            for (int channel = 0; channel < CHANNELS; channel++) {
                int speaking = countOn(channel, Mode.SPEAKING);
                if (speaking > 1 || (speaking == 0 && countOn(channel, Mode.WAITING) > 0)) {
                    return false;
                }
            }
            return true;
        }
    }

    /** The ways of relayed messages, with rows that every search uses again. */
    private static final class Relays {
        final int[] hops;
        final int[] queue;

        Relays() {
            hops = new int[STATION_LIMIT];
            queue = new int[STATION_LIMIT];
        }

        int hopsByBreadth(Net net, int from, int to) {
            for (int i = 0; i < STATION_LIMIT; i++) {
                hops[i] = NONE;
            }
            hops[from] = 0;
            queue[0] = from;
            int queued = 1;
            for (int head = 0; head < queued && head < STATION_LIMIT; head++) {
                int relay = queue[head];
                for (int i = 0; i < net.count; i++) {
                    if (hops[i] < 0 && queued < STATION_LIMIT
                            && net.stations[i].hears(net.stations[relay])) {
                        hops[i] = hops[relay] + 1;
                        queue[queued] = i;
                        queued++;
                    }
                }
            }
            return hops[to];
        }

        int hopsOfSets(Net net, int from, int to) {
            int reached = 1 << from;
            for (int relayed = 0; relayed < STATION_LIMIT; relayed++) {
                if ((reached & (1 << to)) != 0) {
                    return relayed;
                }
                reached = extended(net, reached);
            }
            return NONE;
        }

        int countReached(Net net, int from) {
            int reached = 1 << from;
            for (int relayed = 0; relayed < STATION_LIMIT; relayed++) {
                reached = extended(net, reached);
            }
            return Integer.bitCount(reached);
        }

        /** The set and all stations that can hear one of it. */
        int extended(Net net, int set) {
            int larger = set;
            for (int relay = 0; relay < net.count; relay++) {
                for (int i = 0; i < net.count && (set & (1 << relay)) != 0; i++) {
                    if (net.stations[i].hears(net.stations[relay])) {
                        larger |= 1 << i;
                    }
                }
            }
            return larger;
        }
    }

    /** The states before the latest changes, in a ring. */
    private static final class History {
        final Net[] ring;
        int next;
        int count;

        History() {
            ring = new Net[UNDO_LIMIT];
            for (int i = 0; i < UNDO_LIMIT; i++) {
                ring[i] = new Net();
            }
            next = 0;
            count = 0;
        }

        void push(Net net) {
            ring[next].copyFrom(net);
            next = next + 1 < UNDO_LIMIT ? next + 1 : 0;
            count = Math.min(count + 1, UNDO_LIMIT);
        }

        void popInto(Net net) {
            next = next > 0 ? next - 1 : UNDO_LIMIT - 1;
            net.copyFrom(ring[next]);
            count--;
        }

        void clear() {
            count = 0;
        }
    }

    /**
     * The kinds of commands. In a pattern L stands for a letter, D for a digit and N for a number;
     * every other character stands for itself.
     */
    private enum Kind {
        STATION("station LD N,N N D"),
        MOVE("move D N,N"),
        POWER("power D=N"),
        TUNE("tune D=D"),
        CALL("call D"),
        OVER("over D"),
        CANCEL("cancel D"),
        LIMIT("limit N"),
        WAIT_ONE("wait"),
        WAIT("wait N");

        final String pattern;

        Kind(String pattern) {
            this.pattern = pattern;
        }
    }

    /** A command with the values of the letter, digits and numbers of its pattern, in order. */
    private static final class Command {
        Kind kind;
        final int[] values;
        int valueCount;

        Command() {
            kind = Kind.WAIT_ONE;
            values = new int[COMMAND_VALUES];
            valueCount = 0;
        }

        void begin(Kind newKind) {
            kind = newKind;
            valueCount = 0;
        }

        void take(int value) {
            if (valueCount < COMMAND_VALUES) {
                values[valueCount] = value;
                valueCount++;
            }
        }

        Fault faultOn(Net net) {
            switch (kind) {
                case STATION:
                    return net.faultOfAdding(
                            (char) values[0], values[1], values[2], values[3], values[4], values[5]);
                case MOVE:
                    return net.faultOfMoving(values[0], values[1], values[2]);
                case POWER:
                    return net.faultOfPower(values[0], values[1]);
                case TUNE:
                    return net.faultOfTuning(values[0], values[1]);
                case CALL:
                    return net.faultOfMode(values[0], Mode.IDLE);
                case OVER:
                    return net.faultOfMode(values[0], Mode.SPEAKING);
                case CANCEL:
                    return net.faultOfMode(values[0], Mode.WAITING);
                case LIMIT:
                case WAIT:
                    return faultOfMinutes(values[0]);
                default:
                    return Fault.NO_FAULT;
            }
        }

        /** Executes the command on a net, if it can; whether it could. */
        boolean succeedsOn(Net net) {
            if (faultOn(net) != Fault.NO_FAULT) {
                return false;
            }
            switch (kind) {
                case STATION:
                    net.add((char) values[0], values[1], values[2], values[3], values[4], values[5]);
                    break;
                case MOVE:
                    net.moveTo(values[0], values[1], values[2]);
                    break;
                case POWER:
                    net.changePower(values[0], values[1]);
                    break;
                case TUNE:
                    net.changeChannel(values[0], values[1]);
                    break;
                case CALL:
                    net.speakOrWait(values[0]);
                    break;
                case OVER:
                    net.endTurn(values[0]);
                    break;
                case CANCEL:
                    net.stopWaiting(values[0]);
                    break;
                case LIMIT:
                    net.changeTurnLimit(values[0]);
                    break;
                case WAIT:
                    net.passMinutes(values[0]);
                    break;
                default:
                    net.passMinute();
                    break;
            }
            return true;
        }
    }

    /** The program buffer, and the commands of the text that was parsed last. */
    private static final class Program {
        // Not a text object, for any character can be typed.
        final char[] buffer;
        int length;
        final Command[] commands;
        int commandCount;
        int furthest;

        Program() {
            buffer = new char[BUFFER_LIMIT];
            length = 0;
            commands = new Command[COMMAND_LIMIT];
            for (int i = 0; i < COMMAND_LIMIT; i++) {
                commands[i] = new Command();
            }
            commandCount = 0;
            furthest = 0;
        }

        void append(char character) {
            if (length < BUFFER_LIMIT) {
                buffer[length] = character;
                length++;
            }
        }

        void empty() {
            length = 0;
        }

        /** Reads the commands of the whole text; its error position, or NONE if it is a program. */
        int parse() {
            int begin = 0;
            commandCount = 0;
            while (commandCount < COMMAND_LIMIT) {
                int end = readCommand(begin, commands[commandCount]);
                if (end < 0) {
                    return furthest;
                }
                commandCount++;
                if (end >= length) {
                    return NONE;
                }
                begin = end + 1;
            }
            return length;
        }

        /** The end of the command that begins here, or NONE; then furthest is the error position. */
        int readCommand(int begin, Command command) {
            furthest = begin;
            for (int i = 0; i < KINDS.length; i++) {
                int end = readKind(KINDS[i], begin, command);
                if (end >= 0) {
                    return end;
                }
            }
            return NONE;
        }

        int readKind(Kind kind, int begin, Command command) {
            command.begin(kind);
            int at = begin;
            for (int i = 0; i < kind.pattern.length(); i++) {
                int read = readPart(kind.pattern.charAt(i), at, command);
                furthest = Math.max(furthest, at);
                if (read == 0) {
                    return NONE;
                }
                at += read;
            }
            // What follows decides too: "wait" fits the beginning of "wait 5", but is not its kind.
            furthest = Math.max(furthest, at);
            return at >= length || buffer[at] == ';' ? at : NONE;
        }

        /** The number of characters that fit a part of a pattern, 0 if none fits. */
        int readPart(char part, int at, Command command) {
            if (at >= length) {
                return 0;
            }
            char character = buffer[at];
            switch (part) {
                case 'L':
                    command.take(character);
                    return isLetter(character) ? 1 : 0;
                case 'D':
                    command.take(character - '0');
                    return isDigitAt(at) ? 1 : 0;
                case 'N':
                    return readNumber(at, command);
                default:
                    return character == part ? 1 : 0;
            }
        }

        int readNumber(int at, Command command) {
            if (!isDigitAt(at)) {
                return 0;
            }
            int first = buffer[at] - '0';
            if (!isDigitAt(at + 1)) {
                command.take(first);
                return 1;
            }
            command.take(10 * first + buffer[at + 1] - '0');
            return 2;
        }

        boolean isDigitAt(int at) {
            return at < length && buffer[at] >= '0' && buffer[at] <= '9';
        }
    }
}
