import java.util.NoSuchElementException;

/** Promises 27 to 33: canHear, isJammed, jams and hops in both ways, reachable. */
public final class HearingTest {
    private static final Class<?> INDEX = IndexOutOfBoundsException.class;
    private static final Class<?> ELEMENT = NoSuchElementException.class;

    public static void main(String[] args) {
        canHear();
        isJammed();
        jams();
        hopsOfChain();
        hopsOfShortcut();
        wrongStations();
        Check.end();
    }

    private static void canHear() {
        Net net = new Net();
        net.addStation('A', 0, 10, 10, 5, 3);
        net.addStation('B', 0, 13, 14, 4, 3);
        net.addStation('C', 0, 10, 10, 99, 4);
        Check.same("at the full range", true, net.canHear(1, 0));
        Check.same("the power of the other one counts", false, net.canHear(0, 1));
        Check.same("itself", false, net.canHear(0, 0));
        Check.same("another channel", false, net.canHear(0, 2));
        net.move(1, 14, 14);
        Check.same("a step too far", false, net.canHear(1, 0));
        net.tune(2, 3);
        Check.same("the same place", true, net.canHear(0, 2) && net.canHear(2, 0));
        net.move(0, 0, 0);
        net.move(2, 99, 99);
        Check.same("from corner to corner", false, net.canHear(0, 2));
        net.move(2, 70, 70);
        Check.same("98.99..", true, net.canHear(0, 2));
        net.move(2, 70, 71);
        Check.same("99.7..", false, net.canHear(0, 2));
        net.request(1);
        net.request(0);
        Check.same("nobody need speak, and speakers hear", true, net.canHear(1, 2));
    }

    private static void isJammed() {
        Net net = new Net();
        net.addStation('A', 0, 0, 0, 10, 5);
        net.addStation('B', 0, 3, 4, 1, 4);
        net.addStation('C', 0, 0, 5, 1, 6);
        net.addStation('D', 0, 4, 4, 1, 6);
        net.addStation('E', 0, 0, 0, 1, 7);
        net.addStation('F', 0, 0, 0, 1, 5);
        Check.same("nobody speaks", false, net.isJammed(1) || net.isJammed(2));
        net.request(0);
        Check.same("at half the power, below", true, net.isJammed(1));
        Check.same("at half the power, above", true, net.isJammed(2));
        Check.same("too far", false, net.isJammed(3));
        Check.same("two channels away", false, net.isJammed(4));
        Check.same("its own channel", false, net.isJammed(5) || net.isJammed(0));
        net.setPower(0, 9);
        Check.same("half of an odd power is not rounded", false, net.isJammed(1));
        net.move(1, 0, 4);
        Check.same("nearer", true, net.isJammed(1));
        net.request(1);
        Check.same("a speaking one", true, net.isJammed(1));
        net.request(5);
        net.release(0);
        Check.same("by the next one no more", false, net.isJammed(1));
        net.move(2, 0, 0);
        net.tune(4, 6);
        net.request(4);
        net.request(2);
        Check.same("a waiting one", true, net.isJammed(2));
        Check.same("power 1 jams at the same place", true, net.isJammed(5));
        Check.same("channels 9 and 0 are no neighbours", false, ends().isJammed(0));
    }

    private static Net ends() {
        Net net = new Net();
        net.addStation('A', 0, 0, 0, 99, 0);
        net.addStation('B', 0, 0, 0, 99, 9);
        net.request(1);
        return net;
    }

    private static void jams() {
        Net net = new Net();
        for (int i = 0; i < 8; i++) {
            net.addStation('A', i, 50, 50, 20, i / 2 + 6);
        }
        jamsAre(net, 0);
        net.request(0);
        jamsAre(net, 2);
        net.request(2);
        jamsAre(net, 6);
        net.request(7);
        jamsAre(net, 8);
        net.request(5);
        jamsAre(net, 12);
        net.request(4);
        net.request(1);
        net.request(3);
        net.request(6);
        jamsAre(net, 12);
        net.move(2, 61, 50);
        jamsAre(net, 6);
        net.setPower(2, 22);
        jamsAre(net, 10);
        jamsAre(ends(), 0);
        Check.same("the net agrees", true, net.isConsistent());
    }

    private static void jamsAre(Net net, int pairs) {
        Check.same("jams", pairs, net.jams());
        Check.same("jamsByChannels", pairs, net.jamsByChannels());
    }

    private static void hopsOfChain() {
        Net net = new Net();
        for (int i = 0; i < 8; i++) {
            net.addStation('A', i, 10 * i, 0, 10, 2);
        }
        for (int i = 0; i < 8; i++) {
            for (int j = 0; j < 8; j++) {
                hopsAre(net, Math.abs(i - j), i, j);
            }
            Check.same("reachable", 8, net.reachable(i));
        }
        net.setPower(4, 9);
        noHops(net, 4, 5);
        noHops(net, 0, 7);
        noHops(net, 7, 3);
        hopsAre(net, 3, 7, 4);
        hopsAre(net, 4, 0, 4);
        hopsAre(net, 0, 4, 4);
        Check.same("reachable", 1, net.reachable(4));
        Check.same("reachable", 5, net.reachable(0));
        Check.same("reachable", 4, net.reachable(7));
        net.tune(6, 3);
        noHops(net, 7, 5);
        noHops(net, 7, 6);
        Check.same("reachable", 1, net.reachable(7));
        Check.same("reachable", 1, net.reachable(6));
    }

    private static void hopsOfShortcut() {
        Net net = new Net();
        net.addStation('A', 0, 0, 0, 40, 2);
        net.addStation('B', 0, 10, 0, 10, 2);
        net.addStation('C', 0, 20, 0, 10, 2);
        net.addStation('D', 0, 30, 0, 10, 2);
        net.addStation('E', 0, 50, 0, 99, 2);
        hopsAre(net, 1, 0, 3);
        hopsAre(net, 3, 3, 0);
        noHops(net, 0, 4);
        hopsAre(net, 1, 4, 0);
        Check.same("reachable", 4, net.reachable(0));
        Check.same("reachable", 5, net.reachable(4));
        net.request(1);
        hopsAre(net, 1, 0, 3);
        net.tune(2, 1);
        hopsAre(net, 1, 0, 3);
        noHops(net, 3, 0);
    }

    private static void hopsAre(Net net, int due, int from, int to) {
        Check.same("hops", due, net.hops(from, to));
        Check.same("hopsBySets", due, net.hopsBySets(from, to));
    }

    private static void noHops(Net net, int from, int to) {
        Check.refuses("hops", ELEMENT, net, () -> net.hops(from, to));
        Check.refuses("hopsBySets", ELEMENT, net, () -> net.hopsBySets(from, to));
    }

    private static void wrongStations() {
        Net net = new Net();
        net.addStation('A', 0, 0, 0, 40, 2);
        net.addStation('B', 0, 0, 0, 40, 2);
        for (int outside : new int[] {-1, 2, 8, 32, 33, Integer.MIN_VALUE, Integer.MAX_VALUE}) {
            Check.refuses("canHear", INDEX, net, () -> net.canHear(outside, 0));
            Check.refuses("canHear", INDEX, net, () -> net.canHear(0, outside));
            Check.refuses("canHear", INDEX, net, () -> net.canHear(outside, outside));
            Check.refuses("isJammed", INDEX, net, () -> net.isJammed(outside));
            Check.refuses("hops", INDEX, net, () -> net.hops(outside, 0));
            Check.refuses("hops", INDEX, net, () -> net.hops(0, outside));
            Check.refuses("hops", INDEX, net, () -> net.hops(outside, outside));
            Check.refuses("hopsBySets", INDEX, net, () -> net.hopsBySets(outside, 0));
            Check.refuses("hopsBySets", INDEX, net, () -> net.hopsBySets(0, outside));
            Check.refuses("hopsBySets", INDEX, net, () -> net.hopsBySets(outside, outside));
            Check.refuses("reachable", INDEX, net, () -> net.reachable(outside));
        }
    }
}
