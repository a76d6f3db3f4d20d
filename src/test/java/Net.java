import java.util.ArrayList;
import java.util.List;

/**
 * A RadioNet for the tests. It counts its calls, for the document promises nothing after the 512th. It
 * also remembers its changes, so that twins of it can be made: new objects with the same changes, which
 * tell what is seen of it at no cost of its own calls.
 */
final class Net {
    static final int CALLS = 512;

    private interface Call<A> {
        A on(RadioNet net);
    }

    private final RadioNet net = new RadioNet();
    private final List<Call<?>> changes = new ArrayList<>();
    private Call<?> latest;
    private int calls = 0;
    private String whole;
    private int changesOfWhole = -1;

    private <A> A ask(Call<A> call) {
        calls++;
        if (calls == CALLS + 1) {
            Check.same("calls on one object", CALLS, calls);
        }
        latest = call;
        return call.on(net);
    }

    private <A> A change(Call<A> call) {
        changes.add(call);
        return ask(call);
    }

    // ---- what twins tell

    Net twin() {
        return twinOf(changes);
    }

    private static Net twinOf(List<Call<?>> past) {
        Net twin = new Net();
        for (Call<?> call : past) {
            // A call that was refused is refused again.
            Check.outcome(() -> twin.change(call));
        }
        return twin;
    }

    private static List<Call<?>> after(List<Call<?>> past, Call<?> call) {
        List<Call<?>> longer = new ArrayList<>(past);
        longer.add(call);
        return longer;
    }

    int countChanges() {
        return changes.size();
    }

    /** Everything that any later calls can tell. */
    String whole() {
        if (changesOfWhole != changes.size()) {
            whole = wholeOf(changes);
            changesOfWhole = changes.size();
        }
        return whole;
    }

    /** Everything that later calls can tell if the latest call came after so many changes. */
    String wholeWithLatest(int before) {
        return wholeOf(after(changes.subList(0, before), latest));
    }

    /** Takes the changes that came later out of the twins, for they were refused. */
    void forgetAllBut(int before) {
        while (changes.size() > before) {
            changes.remove(changes.size() - 1);
        }
    }

    private static String wholeOf(List<Call<?>> past) {
        StringBuilder text = new StringBuilder(stateOf(past));
        text.append(Seen.hearing(twinOf(past))).append(Seen.statistics(twinOf(past)));
        text.append("output ").append(Seen.output(twinOf(past))).append('\n');
        text.append(Seen.records(twinOf(past)));
        text.append("typed ").append(Check.outcome(() -> twinOf(past).type('x'))).append('\n');
        text.append("run ").append(outcomeAndState(past, RadioNet::run));
        text.append(Seen.records(twinOf(after(past, RadioNet::run))));
        text.append("restored ").append(outcomeAndState(past, RadioNet::restore));
        List<Call<?>> restored = after(past, RadioNet::restore);
        text.append("then undone ").append(Check.outcome(() -> twinOf(restored).undo())).append('\n');
        List<Call<?>> undone = past;
        for (int i = 1; i <= 9; i++) {
            text.append("undone ").append(outcomeAndState(undone, RadioNet::undo));
            undone = after(undone, RadioNet::undo);
        }
        return text.toString();
    }

    private static String outcomeAndState(List<Call<?>> past, Call<Integer> call) {
        String outcome = Check.outcome(() -> twinOf(past).change(call));
        return outcome + "\n" + stateOf(after(past, call));
    }

    /** The state that is undone, saved and restored. */
    String state() {
        return stateOf(changes);
    }

    private static String stateOf(List<Call<?>> past) {
        Net twin = twinOf(past);
        // The places need a new output line, and the turns must end to be seen, so they come late.
        String seen = Seen.stations(twin) + Seen.channels(twin) + Seen.log(twin);
        Net late = past.size() < CALLS / 2 ? twin : twinOf(past);
        return seen + Seen.places(late) + Seen.turns(late);
    }

    String output() {
        return Seen.output(twin());
    }

    // ---- stations

    int addStation(char letter, int digit, int x, int y, int power, int channel) {
        return change(n -> n.addStation(letter, digit, x, y, power, channel));
    }

    int move(int station, int x, int y) {
        return change(n -> n.move(station, x, y));
    }

    int setPower(int station, int power) {
        return change(n -> n.setPower(station, power));
    }

    int tune(int station, int channel) {
        return change(n -> n.tune(station, channel));
    }

    // ---- turns

    int request(int station) {
        return change(n -> n.request(station));
    }

    int release(int station) {
        return change(n -> n.release(station));
    }

    int cancel(int station) {
        return change(n -> n.cancel(station));
    }

    int setTurnLimit(int minutes) {
        return change(n -> n.setTurnLimit(minutes));
    }

    int pass(int minutes) {
        return change(n -> n.pass(minutes));
    }

    // ---- properties of stations

    int stations() {
        return ask(n -> n.stations());
    }

    int find(char letter, int digit) {
        return ask(n -> n.find(letter, digit));
    }

    char letter(int station) {
        return ask(n -> n.letter(station));
    }

    int digit(int station) {
        return ask(n -> n.digit(station));
    }

    int channel(int station) {
        return ask(n -> n.channel(station));
    }

    int power(int station) {
        return ask(n -> n.power(station));
    }

    boolean isSpeaking(int station) {
        return ask(n -> n.isSpeaking(station));
    }

    boolean isWaiting(int station) {
        return ask(n -> n.isWaiting(station));
    }

    int minutesSpoken(int station) {
        return ask(n -> n.minutesSpoken(station));
    }

    int minutesReceived(int station) {
        return ask(n -> n.minutesReceived(station));
    }

    int stationByMinutes(int rank) {
        return ask(n -> n.stationByMinutes(rank));
    }

    // ---- channels and lines

    int speaker(int channel) {
        return ask(n -> n.speaker(channel));
    }

    int lineLength(int channel) {
        return ask(n -> n.lineLength(channel));
    }

    int waiting(int channel, int position) {
        return ask(n -> n.waiting(channel, position));
    }

    int minutesUntilTurn(int station) {
        return ask(n -> n.minutesUntilTurn(station));
    }

    int minutesUntilTurnBySimulation(int station) {
        return ask(n -> n.minutesUntilTurnBySimulation(station));
    }

    // ---- hearing, jamming, hops

    boolean canHear(int listener, int other) {
        return ask(n -> n.canHear(listener, other));
    }

    boolean isJammed(int station) {
        return ask(n -> n.isJammed(station));
    }

    int jams() {
        return ask(n -> n.jams());
    }

    int jamsByChannels() {
        return ask(n -> n.jamsByChannels());
    }

    int hops(int from, int to) {
        return ask(n -> n.hops(from, to));
    }

    int hopsBySets(int from, int to) {
        return ask(n -> n.hopsBySets(from, to));
    }

    int reachable(int station) {
        return ask(n -> n.reachable(station));
    }

    // ---- the log and statistics

    int logLength() {
        return ask(n -> n.logLength());
    }

    int logStation(int entry) {
        return ask(n -> n.logStation(entry));
    }

    int logBegin(int entry) {
        return ask(n -> n.logBegin(entry));
    }

    int logMinutes(int entry) {
        return ask(n -> n.logMinutes(entry));
    }

    int time() {
        return ask(n -> n.time());
    }

    int turnLimit() {
        return ask(n -> n.turnLimit());
    }

    double meanPower() {
        return ask(n -> n.meanPower());
    }

    float airtime() {
        return ask(n -> n.airtime());
    }

    boolean isConsistent() {
        return ask(n -> n.isConsistent());
    }

    // ---- output

    int writeStation(int station) {
        return change(n -> n.writeStation(station));
    }

    int writeChannel(int channel) {
        return change(n -> n.writeChannel(channel));
    }

    char charAt(int index) {
        return ask(n -> n.charAt(index));
    }

    // ---- programs

    int type(char character) {
        return change(n -> n.type(character));
    }

    int run() {
        return change(n -> n.run());
    }

    int errorPosition() {
        return ask(n -> n.errorPosition());
    }

    int failedCommand() {
        return ask(n -> n.failedCommand());
    }

    // ---- undo and snapshots

    int undo() {
        return change(n -> n.undo());
    }

    int save() {
        return change(n -> n.save());
    }

    int restore() {
        return change(n -> n.restore());
    }
}
