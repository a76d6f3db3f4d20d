import java.util.NoSuchElementException;

/** The edges of promises 22 to 26: channels, positions in the line, minutes until a turn. */
public final class ChannelEdgesTest {
    private static final Class<?> ELEMENT = NoSuchElementException.class;
    private static final Class<?> INDEX = IndexOutOfBoundsException.class;
    private static final Class<?> STATE = IllegalStateException.class;

    public static void main(String[] args) {
        channelsThatExist();
        channelsThatDoNotExist();
        speakerOrNobody();
        lineLengths();
        positions();
        positionsOfOtherChannels();
        fewestMinutes();
        mostMinutes();
        minutesOfOvertakenTurns();
        minutesComeTrue();
        minutesOfWaitingAlone();
        stationsThatDoNotExist();
        Check.end();
    }

    /** "the channel, 0 to 9" */
    private static void channelsThatExist() {
        for (int i = 0; i < 10; i++) {
            int channel = i;
            Net net = new Net();
            net.addStation('A', 0, 0, 0, 1, channel);
            net.addStation('B', 0, 0, 0, 1, channel);
            net.request(1);
            net.request(0);
            Check.tells("speaker", 1, net, () -> net.speaker(channel));
            Check.tells("lineLength", 1, net, () -> net.lineLength(channel));
            Check.tells("waiting", 0, net, () -> net.waiting(channel, 1));
            int other = channel == 9 ? 0 : channel + 1;
            Check.refuses("speaker", ELEMENT, net, () -> net.speaker(other));
            Check.tells("lineLength", 0, net, () -> net.lineLength(other));
            Check.refuses("waiting", ELEMENT, net, () -> net.waiting(other, 1));
        }
    }

    /** "Throws IndexOutOfBoundsException if there is no such channel" */
    private static void channelsThatDoNotExist() {
        for (Net net : new Net[] {new Net(), Nets.line(8)}) {
            for (int outside : new int[] {-1, 10, Integer.MIN_VALUE, Integer.MAX_VALUE}) {
                Check.refuses("speaker", INDEX, net, () -> net.speaker(outside));
                Check.refuses("lineLength", INDEX, net, () -> net.lineLength(outside));
                for (int position : new int[] {0, 1, 8}) {
                    Check.refuses("waiting", INDEX, net, () -> net.waiting(outside, position));
                }
            }
        }
    }

    /** "Throws NoSuchElementException if no station is speaking on it" */
    private static void speakerOrNobody() {
        Net net = Nets.crowd(8);
        Check.refuses("at first", ELEMENT, net, () -> net.speaker(3));
        net.request(0);
        Check.same("the first station", 0, net.speaker(3));
        net.release(0);
        Check.refuses("after the turn", ELEMENT, net, () -> net.speaker(3));
        net.request(7);
        Check.same("the last station", 7, net.speaker(3));
        net.pass(9);
        Check.same("until the limit", 7, net.speaker(3));
        net.pass(1);
        Check.refuses("after the limit", ELEMENT, net, () -> net.speaker(3));
    }

    /** "Returns the number of stations that are waiting on a channel.": 0 to 7 */
    private static void lineLengths() {
        Net net = Nets.crowd(8);
        Check.same("nobody speaks", 0, net.lineLength(3));
        for (int i = 0; i < 8; i++) {
            net.request(i);
            Check.same("lineLength", i, net.lineLength(3));
        }
        for (int i = 0; i < 8; i++) {
            Check.same("lineLength", 7 - i, net.lineLength(3));
            net.release(i);
        }
        Check.same("nobody speaks", 0, net.lineLength(3));
    }

    /** "the position, counted from 1" */
    private static void positions() {
        for (int count = 1; count <= 8; count++) {
            Net net = Nets.line(count);
            for (int i = 1; i < count; i++) {
                Check.same("position " + i, i, net.waiting(3, i));
            }
            for (int outside : new int[] {0, count, -1, Integer.MIN_VALUE, Integer.MAX_VALUE}) {
                Check.refuses("position " + outside, ELEMENT, net, () -> net.waiting(3, outside));
            }
        }
        Net idle = Nets.crowd(8);
        Check.refuses("nobody speaks", ELEMENT, idle, () -> idle.waiting(3, 1));
        Check.refuses("nobody speaks", ELEMENT, idle, () -> idle.waiting(3, 0));
    }

    private static void positionsOfOtherChannels() {
        Net net = new Net();
        for (int i = 0; i < 8; i++) {
            net.addStation('A', i, 0, 0, 1, i < 3 ? 2 : 3);
        }
        for (int station : new int[] {4, 1, 6, 0, 3, 2, 7, 5}) {
            net.request(station);
        }
        Check.same("lineLength", 2, net.lineLength(2));
        Check.same("lineLength", 4, net.lineLength(3));
        int[] onTwo = {0, 2};
        int[] onThree = {6, 3, 7, 5};
        for (int i = 1; i <= 2; i++) {
            Check.same("waiting", onTwo[i - 1], net.waiting(2, i));
        }
        for (int i = 1; i <= 4; i++) {
            Check.same("waiting", onThree[i - 1], net.waiting(3, i));
        }
        Check.refuses("behind the line", ELEMENT, net, () -> net.waiting(2, 3));
        Check.refuses("behind the line", ELEMENT, net, () -> net.waiting(3, 5));
    }

    private static void minutesAre(Net net, int minutes, int station) {
        Check.same("minutesUntilTurn", minutes, net.minutesUntilTurn(station));
        Check.same("by simulation", minutes, net.minutesUntilTurnBySimulation(station));
    }

    /** "Returns the number of minutes, at least 1." */
    private static void fewestMinutes() {
        Net net = Nets.line(3);
        net.pass(8);
        minutesAre(net, 2, 1);
        net.pass(1);
        minutesAre(net, 1, 1);
        minutesAre(net, 11, 2);
        net.pass(1);
        minutesAre(net, 10, 2);
        net.setTurnLimit(1);
        minutesAre(net, 1, 2);
    }

    private static void mostMinutes() {
        Net net = Nets.line(8);
        net.setTurnLimit(60);
        for (int i = 1; i < 8; i++) {
            minutesAre(net, 60 * i, i);
        }
        net.setTurnLimit(1);
        for (int i = 1; i < 8; i++) {
            minutesAre(net, i, i);
        }
    }

    /** A turn that has lasted for longer than the limit ends at the end of the next minute. */
    private static void minutesOfOvertakenTurns() {
        Net net = Nets.line(3);
        net.pass(5);
        int[] due = {0, 1, 1, 1, 1, 1, 1, 2};
        for (int limit = 1; limit <= 7; limit++) {
            net.setTurnLimit(limit);
            minutesAre(net, due[limit], 1);
            minutesAre(net, due[limit] + limit, 2);
        }
    }

    /** "after how many minutes a waiting station will begin to speak, if nothing but time passes" */
    private static void minutesComeTrue() {
        for (int limit : new int[] {1, 4, 5, 6, 10}) {
            for (int station = 1; station < 4; station++) {
                Net net = Nets.line(4);
                net.pass(5);
                net.setTurnLimit(limit);
                int minutes = net.minutesUntilTurn(station);
                Check.same("by simulation", minutes, net.minutesUntilTurnBySimulation(station));
                for (int i = 1; i < minutes; i++) {
                    net.pass(1);
                }
                Check.same("a minute before", true, net.isWaiting(station));
                net.pass(1);
                Check.same("then", true, net.isSpeaking(station));
            }
        }
    }

    /** "Throws IllegalStateException if the station is not waiting" */
    private static void minutesOfWaitingAlone() {
        Net net = Nets.line(3);
        net.cancel(2);
        for (int station : new int[] {0, 2}) {
            Check.refuses("minutesUntilTurn", STATE, net, () -> net.minutesUntilTurn(station));
            Check.refuses("by simulation", STATE, net, () -> net.minutesUntilTurnBySimulation(station));
        }
        Check.tells("waiting", 10, net, () -> net.minutesUntilTurn(1));
        Check.tells("waiting", 10, net, () -> net.minutesUntilTurnBySimulation(1));
    }

    private static void stationsThatDoNotExist() {
        for (int count = 2; count <= 8; count += 6) {
            Net net = Nets.line(count);
            Check.same("the last one", 10 * count - 10, net.minutesUntilTurn(count - 1));
            for (int outside : new int[] {-1, count, Integer.MIN_VALUE, Integer.MAX_VALUE}) {
                Check.refuses("minutesUntilTurn", INDEX, net, () -> net.minutesUntilTurn(outside));
                Check.refuses("by simulation", INDEX, net,
                        () -> net.minutesUntilTurnBySimulation(outside));
            }
        }
    }
}
