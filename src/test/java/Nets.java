/** Nets that several tests begin with. */
final class Nets {
    private Nets() {
    }

    /** So many stations A0, A1, .. at one place and on one channel, which all hear one another. */
    static Net crowd(int count) {
        Net net = new Net();
        for (int i = 0; i < count; i++) {
            net.addStation('A', i, 50, 50, 1, 3);
        }
        return net;
    }

    /** Such a crowd of which the first station speaks and the others wait in their order. */
    static Net line(int count) {
        Net net = crowd(count);
        for (int i = 0; i < count; i++) {
            net.request(i);
        }
        return net;
    }

    /** So many stations at one place, each alone on the channel of its number and speaking. */
    static Net speakers(int count) {
        Net net = new Net();
        for (int i = 0; i < count; i++) {
            net.addStation('A', i, 50, 50, 1, i);
            net.request(i);
        }
        return net;
    }

    /**
     * A net in which everything is kept that can be kept: 8 stations, a line, a full log, 8 changes that
     * can be undone, a saved state, an output line, a buffer, an error position and a failed command.
     */
    static Net busy() {
        Net net = new Net();
        net.addStation('K', 7, 10, 4, 20, 3);
        net.addStation('A', 0, 12, 4, 30, 3);
        net.addStation('B', 3, 14, 4, 10, 3);
        net.addStation('C', 1, 11, 4, 40, 4);
        net.addStation('D', 2, 60, 60, 50, 4);
        net.addStation('E', 4, 20, 20, 60, 0);
        net.save();
        net.addStation('F', 5, 30, 30, 70, 9);
        net.addStation('G', 6, 12, 8, 40, 6);
        Check.type(net, "wax");
        Check.outcome(net::run);
        Check.type(net, "wait;over 0");
        Check.outcome(net::run);
        for (int i = 0; i < 16; i++) {
            net.request(i % 7);
            net.pass(i % 3 + 1);
            net.release(i % 7);
        }
        net.setTurnLimit(20);
        for (int station : new int[] {0, 2, 1, 3, 4, 6}) {
            net.request(station);
        }
        net.pass(5);
        net.writeChannel(3);
        Check.type(net, "wait 7");
        return net;
    }
}
