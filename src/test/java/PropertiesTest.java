import java.util.NoSuchElementException;

/** Promises 11 to 21: the properties of stations. */
public final class PropertiesTest {
    private static final Class<?> INDEX = IndexOutOfBoundsException.class;
    private static final Class<?> ELEMENT = NoSuchElementException.class;

    public static void main(String[] args) {
        values();
        find();
        wrongStations();
        ranks();
        ranksOfEqualMinutes();
        Check.end();
    }

    private static void values() {
        Net net = new Net();
        for (int i = 0; i < 8; i++) {
            Check.same("stations", i, net.stations());
            net.addStation((char) ('Z' - i), 9 - i, i, 2 * i, 10 + i, i + 1);
        }
        Check.same("stations", 8, net.stations());
        for (int i = 0; i < 8; i++) {
            Check.same("letter", (char) ('Z' - i), net.letter(i));
            Check.same("digit", 9 - i, net.digit(i));
            Check.same("power", 10 + i, net.power(i));
            Check.same("channel", i + 1, net.channel(i));
            Check.same("isSpeaking", false, net.isSpeaking(i));
            Check.same("isWaiting", false, net.isWaiting(i));
            Check.same("minutesSpoken", 0, net.minutesSpoken(i));
            Check.same("minutesReceived", 0, net.minutesReceived(i));
        }
        net.tune(1, 1);
        net.request(0);
        net.request(1);
        net.pass(10);
        Check.same("isSpeaking", false, net.isSpeaking(0));
        Check.same("isSpeaking", true, net.isSpeaking(1));
        Check.same("isWaiting", false, net.isWaiting(1));
        net.request(0);
        Check.same("isSpeaking", false, net.isSpeaking(0));
        Check.same("isWaiting", true, net.isWaiting(0));
        net.pass(14);
        Check.same("minutesSpoken in two turns", 14, net.minutesSpoken(0));
        Check.same("minutesSpoken", 10, net.minutesSpoken(1));
        Check.same("minutesReceived", 10, net.minutesReceived(0));
        Check.same("minutesReceived", 14, net.minutesReceived(1));
    }

    private static void find() {
        Net net = new Net();
        Check.refuses("no stations", ELEMENT, net, () -> net.find('A', 0));
        Check.refuses("what an empty place might hold", ELEMENT, net, () -> net.find((char) 0, 0));
        net.addStation('K', 7, 0, 0, 1, 0);
        net.addStation('K', 0, 0, 0, 1, 0);
        net.addStation('A', 7, 0, 0, 1, 0);
        Check.same("find", 0, net.find('K', 7));
        Check.same("find", 1, net.find('K', 0));
        Check.same("find", 2, net.find('A', 7));
        Check.refuses("not together", ELEMENT, net, () -> net.find('A', 0));
        Check.refuses("no letter", ELEMENT, net, () -> net.find('k', 7));
        Check.refuses("no digit", ELEMENT, net, () -> net.find('K', 17));
        Check.refuses("no digit", ELEMENT, net, () -> net.find('K', -1));
        Check.refuses("no letter", ELEMENT, net, () -> net.find((char) ('K' + 256), 7));
        net.undo();
        Check.refuses("undone", ELEMENT, net, () -> net.find('A', 7));
    }

    private static void wrongStations() {
        Net net = new Net();
        wrongStations(net, 0);
        net.addStation('A', 0, 0, 0, 1, 0);
        wrongStations(net, 1);
        for (int i = 1; i < 8; i++) {
            net.addStation('A', i, 0, 0, 1, 0);
        }
        wrongStations(net, 8);
    }

    private static void wrongStations(Net net, int count) {
        for (int outside : new int[] {-1, count, 8, Integer.MIN_VALUE, Integer.MAX_VALUE}) {
            Check.refuses("letter", INDEX, net, () -> net.letter(outside));
            Check.refuses("digit", INDEX, net, () -> net.digit(outside));
            Check.refuses("channel", INDEX, net, () -> net.channel(outside));
            Check.refuses("power", INDEX, net, () -> net.power(outside));
            Check.refuses("isSpeaking", INDEX, net, () -> net.isSpeaking(outside));
            Check.refuses("isWaiting", INDEX, net, () -> net.isWaiting(outside));
            Check.refuses("minutesSpoken", INDEX, net, () -> net.minutesSpoken(outside));
            Check.refuses("minutesReceived", INDEX, net, () -> net.minutesReceived(outside));
            Check.refuses("stationByMinutes", ELEMENT, net, () -> net.stationByMinutes(outside));
        }
    }

    private static void ranks() {
        Net net = new Net();
        net.addStation('A', 0, 0, 0, 10, 0);
        net.addStation('B', 0, 0, 0, 10, 0);
        net.addStation('C', 0, 90, 90, 10, 0);
        net.addStation('D', 0, 0, 0, 10, 0);
        net.request(1);
        net.pass(1);
        net.release(1);
        net.request(3);
        net.pass(5);
        ranksAre(net, 3, 1, 0, 2);
        net.release(3);
        net.request(2);
        net.pass(1);
        ranksAre(net, 3, 1, 2, 0);
    }

    private static void ranksOfEqualMinutes() {
        Net net = new Net();
        net.addStation('B', 1, 0, 0, 10, 0);
        net.addStation('C', 0, 0, 0, 10, 1);
        net.addStation('B', 0, 0, 0, 10, 2);
        net.addStation('A', 9, 0, 0, 10, 3);
        ranksAre(net, 3, 2, 0, 1);
        net.tune(1, 5);
        net.tune(2, 5);
        net.request(1);
        net.pass(2);
        ranksAre(net, 1, 2, 3, 0);
    }

    private static void ranksAre(Net net, int... stations) {
        for (int i = 0; i < stations.length; i++) {
            Check.same("rank " + i, stations[i], net.stationByMinutes(i));
        }
    }
}
