/** Promises 34 to 42: the log, the time, the turn limit, statistics, isConsistent. */
public final class LogTest {
    private static final Class<?> INDEX = IndexOutOfBoundsException.class;
    private static final Class<?> ARITHMETIC = ArithmeticException.class;

    public static void main(String[] args) {
        log();
        latestEntries();
        timeAndLimit();
        meanPower();
        airtime();
        isConsistent();
        Check.end();
    }

    private static void log() {
        Net net = new Net();
        wrongEntries(net);
        net.addStation('A', 0, 0, 0, 1, 0);
        net.addStation('B', 0, 0, 0, 1, 0);
        net.pass(3);
        net.request(1);
        net.request(0);
        net.pass(4);
        Check.same("no turn has ended", 0, net.logLength());
        net.release(1);
        entryIs(net, 0, 1, 3, 4);
        net.pass(10);
        entryIs(net, 1, 0, 7, 10);
        entryIs(net, 0, 1, 3, 4);
        Check.same("logLength", 2, net.logLength());
        wrongEntries(net);
    }

    private static void latestEntries() {
        Net net = new Net();
        net.addStation('A', 0, 0, 0, 1, 0);
        net.addStation('B', 0, 0, 0, 1, 4);
        for (int i = 0; i < 20; i++) {
            Check.same("logLength", Math.min(i, 16), net.logLength());
            net.request(i % 2);
            net.pass(i % 3 + 1);
            net.release(i % 2);
            Net seen = net.twin();
            int length = Math.min(i + 1, 16);
            for (int j = 0; j < length; j++) {
                int turn = i - length + 1 + j;
                int begin = turn / 3 * 6 + (turn % 3 == 0 ? 0 : turn % 3 == 1 ? 1 : 3);
                entryIs(seen, j, turn % 2, begin, turn % 3 + 1);
            }
        }
        wrongEntries(net);
    }

    private static void entryIs(Net net, int entry, int station, int begin, int minutes) {
        Check.same("logStation", station, net.logStation(entry));
        Check.same("logBegin", begin, net.logBegin(entry));
        Check.same("logMinutes", minutes, net.logMinutes(entry));
    }

    private static void wrongEntries(Net net) {
        int count = net.logLength();
        for (int outside : new int[] {-1, count, 16, Integer.MIN_VALUE, Integer.MAX_VALUE}) {
            Check.refuses("logStation", INDEX, net, () -> net.logStation(outside));
            Check.refuses("logBegin", INDEX, net, () -> net.logBegin(outside));
            Check.refuses("logMinutes", INDEX, net, () -> net.logMinutes(outside));
        }
    }

    private static void timeAndLimit() {
        Net net = new Net();
        Check.same("turnLimit", 10, net.turnLimit());
        net.pass(1);
        net.pass(60);
        Check.same("time", 61, net.time());
        net.setTurnLimit(17);
        Check.same("turnLimit", 17, net.turnLimit());
        Check.run(net, "limit 3;wait 9;wait");
        Check.same("turnLimit", 3, net.turnLimit());
        Check.same("time", 71, net.time());
    }

    private static void meanPower() {
        Net net = new Net();
        Check.refuses("no stations", ARITHMETIC, net, net::meanPower);
        net.addStation('A', 0, 0, 0, 7, 0);
        Check.same("one", 7.0, net.meanPower());
        net.addStation('B', 0, 0, 0, 10, 0);
        Check.same("two", 8.5, net.meanPower());
        net.addStation('C', 0, 0, 0, 3, 0);
        Check.same("three", 20.0 / 3.0, net.meanPower());
        net.setPower(0, 99);
        Check.same("changed", 112.0 / 3.0, net.meanPower());
    }

    private static void airtime() {
        Net net = new Net();
        net.addStation('A', 0, 0, 0, 7, 0);
        net.addStation('B', 0, 0, 0, 7, 1);
        net.request(0);
        Check.refuses("time 0", ARITHMETIC, net, net::airtime);
        net.pass(1);
        Check.same("one", 1.0f, net.airtime());
        net.request(1);
        net.pass(2);
        Check.same("both", 5.0f / 3.0f, net.airtime());
        net.release(0);
        net.release(1);
        net.pass(60);
        Check.same("none", 5.0f / 63.0f, net.airtime());
        Net empty = new Net();
        empty.pass(1);
        Check.same("no stations", 0.0f, empty.airtime());
    }

    private static void isConsistent() {
        Net net = new Net();
        Check.same("new", true, net.isConsistent());
        for (int i = 0; i < 8; i++) {
            net.addStation('A', i, 12 * i, 10, 25, i / 3);
            net.request(i);
            Check.same("added", true, net.isConsistent());
        }
        for (int i = 0; i < 40; i++) {
            net.pass(1);
            net.setTurnLimit(i % 7 + 1);
            Check.tells("later", true, net, net::isConsistent);
        }
    }
}
