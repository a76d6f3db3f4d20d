import java.util.NoSuchElementException;

/** The edges of promises 11 to 21: which stations exist, which call signs, which ranks. */
public final class PropertyEdgesTest {
    private static final Class<?> ELEMENT = NoSuchElementException.class;
    private static final Class<?> INDEX = IndexOutOfBoundsException.class;

    public static void main(String[] args) {
        for (int count = 0; count <= 8; count++) {
            countOfStations(count);
            stationsThatExist(count);
            stationsThatDoNotExist(count);
            ranks(count);
            callSigns(count);
        }
        callSignsThatNobodyHas();
        modes();
        minutesSpoken();
        minutesReceived();
        ranksByEveryKey();
        ranksOfEqualStations();
        Check.end();
    }

    private static Net netOf(int count) {
        Net net = new Net();
        for (int i = 0; i < count; i++) {
            net.addStation((char) ('A' + 3 * i), 9 - i, 0, 0, 90 + i, 9 - i);
        }
        return net;
    }

    /** "Returns the number of stations.": 0 to 8 */
    private static void countOfStations(int count) {
        Net net = netOf(count);
        Check.tells("stations", count, net, net::stations);
    }

    private static void stationsThatExist(int count) {
        Net net = netOf(count);
        for (int i = 0; i < count; i++) {
            Check.same("letter", (char) ('A' + 3 * i), net.letter(i));
            Check.same("digit", 9 - i, net.digit(i));
            Check.same("channel", 9 - i, net.channel(i));
            Check.same("power", 90 + i, net.power(i));
            Check.same("isSpeaking", false, net.isSpeaking(i));
            Check.same("isWaiting", false, net.isWaiting(i));
            Check.same("minutesSpoken", 0, net.minutesSpoken(i));
            Check.same("minutesReceived", 0, net.minutesReceived(i));
        }
    }

    /** "Throws IndexOutOfBoundsException if the station does not exist" */
    private static void stationsThatDoNotExist(int count) {
        Net net = netOf(count);
        for (int outside : new int[] {-1, count, Integer.MIN_VALUE, Integer.MAX_VALUE}) {
            Check.refuses("letter", INDEX, net, () -> net.letter(outside));
            Check.refuses("digit", INDEX, net, () -> net.digit(outside));
            Check.refuses("channel", INDEX, net, () -> net.channel(outside));
            Check.refuses("power", INDEX, net, () -> net.power(outside));
            Check.refuses("isSpeaking", INDEX, net, () -> net.isSpeaking(outside));
            Check.refuses("isWaiting", INDEX, net, () -> net.isWaiting(outside));
            Check.refuses("minutesSpoken", INDEX, net, () -> net.minutesSpoken(outside));
            Check.refuses("minutesReceived", INDEX, net, () -> net.minutesReceived(outside));
        }
    }

    /** "the rank, counted from 0", "Throws NoSuchElementException if there is no such rank" */
    private static void ranks(int count) {
        Net net = netOf(count);
        for (int i = 0; i < count; i++) {
            int rank = i;
            Check.tells("stationByMinutes", i, net, () -> net.stationByMinutes(rank));
        }
        for (int outside : new int[] {-1, count, Integer.MIN_VALUE, Integer.MAX_VALUE}) {
            Check.refuses("rank " + outside, ELEMENT, net, () -> net.stationByMinutes(outside));
        }
    }

    /** "Throws NoSuchElementException if no station has this call sign" */
    private static void callSigns(int count) {
        Net net = netOf(count);
        for (int i = 0; i < 8; i++) {
            char letter = (char) ('A' + 3 * i);
            int digit = 9 - i;
            if (i < count) {
                Check.tells("find", i, net, () -> net.find(letter, digit));
            } else {
                Check.refuses("find", ELEMENT, net, () -> net.find(letter, digit));
            }
            Check.refuses("another digit", ELEMENT, net, () -> net.find(letter, digit - 1));
            Check.refuses("another letter", ELEMENT, net, () -> net.find((char) (letter + 1), digit));
        }
    }

    /** What is no call sign at all is a call sign that nobody has, and no argument out of range. */
    private static void callSignsThatNobodyHas() {
        Net net = new Net();
        net.addStation('A', 0, 0, 0, 1, 0);
        net.addStation('Z', 9, 0, 0, 1, 0);
        Check.same("the smallest", 0, net.find('A', 0));
        Check.same("the largest", 1, net.find('Z', 9));
        for (char letter : new char[] {'A' - 1, 'B', 'Y', 'Z' + 1, 'a', 'z', 0, 0xFFFF, 'A' + 256}) {
            Check.refuses("letter " + (int) letter, ELEMENT, net, () -> net.find(letter, 0));
            Check.refuses("letter " + (int) letter, ELEMENT, net, () -> net.find(letter, 9));
        }
        for (int digit : new int[] {-1, 1, 8, 10, '0', Integer.MIN_VALUE, Integer.MAX_VALUE}) {
            Check.refuses("digit " + digit, ELEMENT, net, () -> net.find('A', digit));
            Check.refuses("digit " + digit, ELEMENT, net, () -> net.find('Z', digit));
        }
    }

    /** A station is idle, speaking or waiting, and of these one at a time. */
    private static void modes() {
        Net net = Nets.line(8);
        for (int i = 0; i < 8; i++) {
            Check.same("isSpeaking", i == 0, net.isSpeaking(i));
            Check.same("isWaiting", i > 0, net.isWaiting(i));
        }
        net.cancel(7);
        Check.same("idle", false, net.isSpeaking(7) || net.isWaiting(7));
        net.release(0);
        Check.same("idle", false, net.isSpeaking(0) || net.isWaiting(0));
        Check.same("speaking", true, net.isSpeaking(1) && !net.isWaiting(1));
    }

    /** "Returns the number of minutes in all turns.": the turn that lasts, and all that have ended */
    private static void minutesSpoken() {
        Net net = Nets.crowd(2);
        net.request(0);
        Check.same("none", 0, net.minutesSpoken(0));
        net.pass(1);
        Check.same("in the turn that lasts", 1, net.minutesSpoken(0));
        net.release(0);
        Check.same("in a turn that ended", 1, net.minutesSpoken(0));
        net.pass(60);
        Check.same("without a turn", 1, net.minutesSpoken(0));
        for (int i = 0; i < 20; i++) {
            net.request(0);
            net.pass(60);
        }
        Check.same("in more turns than the log keeps", 201, net.minutesSpoken(0));
        Check.same("of the other one", 0, net.minutesSpoken(1));
    }

    private static void minutesReceived() {
        Net net = Nets.crowd(2);
        net.request(0);
        Check.same("none", 0, net.minutesReceived(1));
        net.pass(1);
        Check.same("one", 1, net.minutesReceived(1));
        net.pass(60);
        Check.same("to the end of the turn", 10, net.minutesReceived(1));
        net.request(1);
        net.pass(60);
        Check.same("not its own ones", 10, net.minutesReceived(1));
        Check.same("of the other one", 10, net.minutesReceived(0));
    }

    /** "by the minutes that they have spoken .., then .. received .., then by their call signs" */
    private static void ranksByEveryKey() {
        Net net = new Net();
        net.addStation('A', 0, 0, 0, 1, 0);
        net.addStation('B', 9, 50, 50, 9, 1);
        net.addStation('C', 0, 50, 50, 9, 1);
        net.addStation('B', 1, 99, 99, 9, 1);
        net.addStation('D', 5, 0, 99, 9, 1);
        ranksAre(net, 0, 3, 1, 2, 4);
        net.request(4);
        net.pass(2);
        net.release(4);
        ranksAre(net, 4, 0, 3, 1, 2);
        net.request(2);
        net.pass(1);
        net.release(2);
        ranksAre(net, 4, 2, 1, 0, 3);
        net.request(0);
        net.pass(1);
        ranksAre(net, 4, 0, 2, 1, 3);
        net.pass(1);
        ranksAre(net, 0, 4, 2, 1, 3);
        net.pass(1);
        ranksAre(net, 0, 4, 2, 1, 3);
        net.request(1);
        net.pass(1);
        ranksAre(net, 0, 4, 1, 2, 3);
        net.move(1, 60, 60);
        net.pass(1);
        ranksAre(net, 0, 1, 4, 2, 3);
        net.release(1);
        net.request(2);
        net.pass(1);
        ranksAre(net, 0, 1, 2, 4, 3);
        net.move(1, 50, 50);
        net.pass(1);
        ranksAre(net, 0, 2, 1, 4, 3);
    }

    private static void ranksOfEqualStations() {
        Net net = new Net();
        String signs = "Z9Z0A9A0M5M4L9N0";
        for (int i = 0; i < 8; i++) {
            net.addStation(signs.charAt(2 * i), signs.charAt(2 * i + 1) - '0', 0, 0, 1, 0);
        }
        ranksAre(net, 3, 2, 6, 5, 4, 7, 1, 0);
    }

    private static void ranksAre(Net net, int... stations) {
        for (int i = 0; i < stations.length; i++) {
            Check.same("rank " + i, stations[i], net.stationByMinutes(i));
        }
    }
}
