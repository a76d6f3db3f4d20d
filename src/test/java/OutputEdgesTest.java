/** The edges of promises 43 to 45: the shortest and the longest lines, and their characters. */
public final class OutputEdgesTest {
    private static final Class<?> INDEX = IndexOutOfBoundsException.class;

    public static void main(String[] args) {
        shortestStation();
        longestStation();
        stationsThatDoNotExist();
        emptyChannel();
        longestChannel();
        channelsThatExist();
        channelsThatDoNotExist();
        initiallyEmpty();
        indexesOfEveryLength();
        newLineReplacesTheOld();
        refusedLineLeavesTheOld();
        Check.end();
    }

    private static void stationIs(Net net, int station, String line) {
        Check.same("writeStation", line.length(), net.writeStation(station));
        Check.same("line", line, net.output());
    }

    private static void channelIs(Net net, int channel, String line) {
        Check.same("writeChannel", line.length(), net.writeChannel(channel));
        Check.same("line", line, net.output());
    }

    private static void shortestStation() {
        Net net = new Net();
        net.addStation('A', 0, 0, 0, 1, 0);
        stationIs(net, 0, "A0@0,0#0");
        net.move(0, 9, 9);
        stationIs(net, 0, "A0@9,9#0");
    }

    /** "and then "!" if it is speaking, or "?" if it is waiting" */
    private static void longestStation() {
        Net net = new Net();
        net.addStation('Z', 9, 99, 99, 99, 9);
        net.addStation('Y', 8, 10, 10, 99, 9);
        stationIs(net, 0, "Z9@99,99#9");
        net.request(0);
        net.request(1);
        stationIs(net, 0, "Z9@99,99#9!");
        stationIs(net, 1, "Y8@10,10#9?");
        net.release(0);
        stationIs(net, 0, "Z9@99,99#9");
        stationIs(net, 1, "Y8@10,10#9!");
    }

    private static void stationsThatDoNotExist() {
        for (int count = 0; count <= 8; count += 4) {
            Net net = Nets.line(count);
            net.writeChannel(3);
            for (int outside : new int[] {-1, count, Integer.MIN_VALUE, Integer.MAX_VALUE}) {
                Check.refuses("station " + outside, INDEX, net, () -> net.writeStation(outside));
            }
        }
        stationIs(Nets.line(8), 7, "A7@50,50#3?");
    }

    /** "The line is empty if no station is speaking." */
    private static void emptyChannel() {
        Net net = Nets.crowd(8);
        channelIs(net, 3, "");
        net.request(0);
        channelIs(net, 3, "A0");
        net.release(0);
        channelIs(net, 3, "");
        channelIs(new Net(), 0, "");
    }

    private static void longestChannel() {
        Net net = Nets.crowd(8);
        for (int i = 7; i >= 0; i--) {
            net.request(i);
        }
        channelIs(net, 3, "A7<A6<A5<A4<A3<A2<A1<A0");
        net.cancel(0);
        channelIs(net, 3, "A7<A6<A5<A4<A3<A2<A1");
        net.release(7);
        channelIs(net, 3, "A6<A5<A4<A3<A2<A1");
    }

    /** "the channel, 0 to 9" */
    private static void channelsThatExist() {
        for (int channel = 0; channel <= 9; channel++) {
            Net net = new Net();
            net.addStation('K', 7, 0, 0, 1, channel);
            net.addStation('B', 3, 0, 0, 1, channel);
            net.request(1);
            net.request(0);
            for (int other = 0; other <= 9; other++) {
                channelIs(net, other, other == channel ? "B3<K7" : "");
            }
        }
    }

    private static void channelsThatDoNotExist() {
        Net net = Nets.line(2);
        net.writeStation(1);
        for (int outside : new int[] {-1, 10, Integer.MIN_VALUE, Integer.MAX_VALUE}) {
            Check.refuses("channel " + outside, INDEX, net, () -> net.writeChannel(outside));
        }
    }

    private static void noOtherCharacters(Net net, int length) {
        for (int outside : new int[] {-1, length, Integer.MIN_VALUE, Integer.MAX_VALUE}) {
            Check.refuses("index " + outside, INDEX, net, () -> net.charAt(outside));
        }
    }

    /** "the output line, which is initially empty" */
    private static void initiallyEmpty() {
        noOtherCharacters(new Net(), 0);
        noOtherCharacters(Nets.line(2), 0);
    }

    /** "if the index is negative or not less than the length" */
    private static void indexesOfEveryLength() {
        Net net = Nets.line(8);
        net.writeChannel(3);
        String line = "A0<A1<A2<A3<A4<A5<A6<A7";
        for (int i = 0; i < line.length(); i++) {
            int index = i;
            Check.tells("charAt " + i, line.charAt(i), net, () -> net.charAt(index));
        }
        noOtherCharacters(net, line.length());
        net.writeStation(7);
        Check.same("first", 'A', net.charAt(0));
        Check.same("last", '?', net.charAt(10));
        noOtherCharacters(net, 11);
        net.writeChannel(4);
        noOtherCharacters(net, 0);
    }

    /** "which replaces its old content" */
    private static void newLineReplacesTheOld() {
        Net net = Nets.line(8);
        channelIs(net, 3, "A0<A1<A2<A3<A4<A5<A6<A7");
        stationIs(net, 0, "A0@50,50#3!");
        noOtherCharacters(net, 11);
        stationIs(net, 1, "A1@50,50#3?");
        channelIs(net, 0, "");
        stationIs(net, 1, "A1@50,50#3?");
        net.move(1, 0, 0);
        Check.same("it does not follow the net", "A1@50,50#3?", net.output());
    }

    private static void refusedLineLeavesTheOld() {
        Net net = Nets.line(2);
        net.writeStation(1);
        Check.refuses("station", INDEX, net, () -> net.writeStation(2));
        Check.same("line", "A1@50,50#3?", net.output());
        Check.refuses("channel", INDEX, net, () -> net.writeChannel(10));
        Check.same("line", "A1@50,50#3?", net.output());
    }
}
