/** Promises 43 to 45: writeStation, writeChannel, charAt. */
public final class OutputTest {
    private static final Class<?> INDEX = IndexOutOfBoundsException.class;

    public static void main(String[] args) {
        writeStation();
        writeChannel();
        charAt();
        lineStays();
        Check.end();
    }

    private static void stationIs(Net net, int station, String line) {
        Check.same("writeStation", line.length(), net.writeStation(station));
        Check.same("line", line, net.output());
    }

    private static void channelIs(Net net, int channel, String line) {
        Check.same("writeChannel", line.length(), net.writeChannel(channel));
        Check.same("line", line, net.output());
    }

    private static Net three() {
        Net net = new Net();
        net.addStation('K', 7, 10, 4, 20, 3);
        net.addStation('A', 0, 0, 99, 20, 3);
        net.addStation('B', 3, 99, 0, 20, 3);
        return net;
    }

    private static void writeStation() {
        Net net = three();
        stationIs(net, 0, "K7@10,4#3");
        net.request(0);
        net.request(1);
        stationIs(net, 0, "K7@10,4#3!");
        stationIs(net, 1, "A0@0,99#3?");
        stationIs(net, 2, "B3@99,0#3");
        net.move(2, 9, 10);
        net.tune(2, 0);
        stationIs(net, 2, "B3@9,10#0");
        net.release(0);
        stationIs(net, 0, "K7@10,4#3");
        stationIs(net, 1, "A0@0,99#3!");
        for (int outside : new int[] {-1, 3, 8, Integer.MIN_VALUE, Integer.MAX_VALUE}) {
            Check.refuses("station", INDEX, net, () -> net.writeStation(outside));
        }
    }

    private static void writeChannel() {
        Net net = three();
        channelIs(net, 3, "");
        net.request(0);
        channelIs(net, 3, "K7");
        net.request(1);
        net.request(2);
        channelIs(net, 3, "K7<A0<B3");
        channelIs(net, 2, "");
        net.addStation('Q', 5, 0, 0, 1, 9);
        net.request(3);
        channelIs(net, 9, "Q5");
        net.cancel(1);
        channelIs(net, 3, "K7<B3");
        net.request(1);
        net.release(0);
        channelIs(net, 3, "B3<A0");
        for (int outside : new int[] {-1, 10, Integer.MIN_VALUE, Integer.MAX_VALUE}) {
            Check.refuses("channel", INDEX, net, () -> net.writeChannel(outside));
        }
        Net full = new Net();
        for (int i = 0; i < 8; i++) {
            full.addStation('W', i, 0, 0, 1, 0);
            full.request(i);
        }
        channelIs(full, 0, "W0<W1<W2<W3<W4<W5<W6<W7");
    }

    private static void charAt() {
        Net net = three();
        Check.refuses("empty at first", INDEX, net, () -> net.charAt(0));
        net.writeStation(0);
        Check.same("first", 'K', net.charAt(0));
        Check.same("last", '3', net.charAt(8));
        for (int outside : new int[] {-1, 9, Integer.MIN_VALUE, Integer.MAX_VALUE}) {
            Check.refuses("index", INDEX, net, () -> net.charAt(outside));
        }
        net.writeChannel(3);
        Check.refuses("empty again", INDEX, net, () -> net.charAt(0));
    }

    private static void lineStays() {
        Net net = three();
        net.save();
        net.writeStation(0);
        net.request(0);
        net.pass(3);
        Check.run(net, "over 0");
        net.undo();
        net.restore();
        Check.same("the line is no part of the state", "K7@10,4#3", net.output());
    }
}
